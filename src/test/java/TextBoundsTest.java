/**
 * The boundary cases of promises 9 to 15 and of the terms about texts, one method for each sentence
 * that names one. The texts that are due here were worked out by another program, so that a slip in
 * Bench would be seen too.
 */
public final class TextBoundsTest {
    private static final int LEAST = Integer.MIN_VALUE;
    private static final int MOST = Integer.MAX_VALUE;
    private static final int KEY = 7;
    private static final String SIGNS =
        "ABCDEFGHIJKLMNOPQRSTUVWXYZabcdefghijklmnopqrstuvwxyz0123456789-_";
    private static final String GOOD = Bench.claims(0, 1, 60, 1, 5);
    private static final Due due = new Due("TextBoundsTest");

    public static void main(String[] args) {
        terms();
        typing();
        form();
        seals();
        claims();
        verdicts();
        due.end();
    }

    private static void terms() {
        bothTextsAreEmptyAtFirst();
        challengeBeginsWithTheLength();
        challengeKeepsThirtyBits();
        sealBeginsWithTheKey();
        sealWrapsAround();
        wrappedIsFilledUpWithNoughts();
        claimsHaveNoLeadingNoughts();
        longestTextOfAnAccessToken();
    }

    private static void typing() {
        keyCodes();
        keyUpToTheMost();
        alterPlaces();
        alterCodes();
        takeOfAnEmptyOutput();
        takeOfTheLongestOutput();
        letterPlaces();
        wrapOfNone();
        wrapUpToTheMost();
        refusedWrapLeavesTheOutput();
    }

    private static void form() {
        formHasTenSignsBehindThePoint();
        formHasSignsAlone();
        formHasOnePoint();
        formIsNotOneMoreThanAMultipleOfFour();
        formHasNoughtsFilledUp();
        formAtTheMost();
    }

    private static void seals() {
        forgedInEachBit();
        forgedByAnotherKey();
    }

    private static void claims() {
        claimsOfNothing();
        claimsNeedTheirBraces();
        claimsNeedTheirCommas();
        claimsNeedEachNameOnce();
        claimsNeedNamesInQuotationMarks();
        claimsNumbersUpToNineDigits();
        claimsNumbersWithoutLeadingNoughts();
        claimsSpacesBetween();
        claimsNoSpacesInside();
        claimsNoOtherCharacters();
    }

    private static void verdicts() {
        expiredAtTheEnd();
        deadWhenNotActive();
        audienceIsItsOwn();
        scopesInFourBits();
        subAtTheMost();
    }

    /** At time 10, with access token 1 of client 0, audience 1, scopes 5, end 60. */
    private static GrantServer server() {
        GrantServer x = Bench.exchanged(5);
        x.tick(10);
        return x;
    }

    private static int checked(String text) {
        GrantServer x = server();
        Bench.type(x, text);
        return x.check(1, 5);
    }

    private static void sealedIs(String signs, int want) {
        due.is("check of the signs " + signs, checked(Bench.sealed(KEY, signs)), want);
    }

    private static void claimsAre(String claims, int want) {
        due.is("check of " + claims, checked(Bench.wrapped(KEY, claims)), want);
    }

    private static String wrappedBy(int key, String text) {
        GrantServer x = new GrantServer(key, 1, 1, 1);
        Bench.type(x, text);
        x.wrap();
        return Bench.text(x, true);
    }

    private static int challengeOf(String text) {
        GrantServer x = new GrantServer(1, 1, 1, 1);
        Bench.type(x, text);
        return x.challenge();
    }

    // Terms

    /** "THE INPUT .. THE OUTPUT likewise; both empty at first" */
    private static void bothTextsAreEmptyAtFirst() {
        GrantServer x = new GrantServer(1, 1, 1, 1);
        due.is("input", x.letter(false, 0), GrantServer.NONE);
        due.is("output", x.letter(true, 0), GrantServer.NONE);
        due.is("take", x.take(true), 0);
        due.is("challenge", x.challenge(), 0);
        due.is("check", x.check(0, 0), GrantServer.FORM);
    }

    /** CHALLENGE: "at first how many characters it has" */
    private static void challengeBeginsWithTheLength() {
        due.is("of none", challengeOf(""), 0);
        due.is("of a space", challengeOf(" "), 1000035);
        due.is("of a tilde", challengeOf("~"), 1000129);
        due.is("of ab", challengeOf("ab"), 801724119);
    }

    /** CHALLENGE: "the lowest 30 bits" */
    private static void challengeKeepsThirtyBits() {
        due.is("of 120 tildes", challengeOf("~".repeat(120)), 918610712);
        due.is("of 120 spaces", challengeOf(" ".repeat(120)), 177824632);
        due.is("of 119 a", challengeOf("a".repeat(119)), 269385506);
        for (int length = 0; length <= 120; length++) {
            int challenge = challengeOf("}".repeat(length));
            due.yes("of " + length + " is in its bounds", challenge >= 0 && challenge < 1 << 30);
            due.is("of " + length, challenge, Bench.challengeOf("}".repeat(length)));
        }
    }

    /** SEAL: "h is the constructor's key at first (a long)", "the lowest 60 bits .. the highest first" */
    private static void sealBeginsWithTheKey() {
        due.is("key 0", wrappedBy(0, ""), ".AAAAAAAAAA");
        due.is("key 1", wrappedBy(1, ""), ".AAAAAAAAAB");
        due.is("key -1", wrappedBy(-1, ""), ".__________");
        due.is("the greatest key", wrappedBy(MOST, ""), ".AAAAB_____");
        due.is("the least key", wrappedBy(LEAST, ""), ".____-AAAAA");
    }

    /** SEAL: "(wrapping), then h xor (h shifted right by 29 without sign)" */
    private static void sealWrapsAround() {
        due.is("key 0, a", wrappedBy(0, "a"), "YQ.VoetC8H9K2");
        due.is("key 0, abc", wrappedBy(0, "abc"), "YWJj.ftnS1NyQUP");
        due.is("key 1, abc", wrappedBy(1, "abc"), "YWJj.TLEKcF1J9J");
        due.is("key -1, abc", wrappedBy(-1, "abc"), "YWJj.CMLlJEE_zE");
        due.is("the greatest key, abc", wrappedBy(MOST, "abc"), "YWJj.lz-Ac0b4mo");
        due.is("the least key, abc", wrappedBy(LEAST, "abc"), "YWJj.KiaEvVcQcl");
        due.is("key -1, 81 tildes", wrappedBy(-1, "~".repeat(81)).substring(108), ".ZJ4J_A8PX9");
        due.is("the least key, 81 tildes", wrappedBy(LEAST, "~".repeat(81)).substring(108),
            ".KZAOERJr4r");
    }

    /** WRAPPED: "the last ones filled up with 0" */
    private static void wrappedIsFilledUpWithNoughts() {
        due.is("one character", wrappedBy(0, "~").substring(0, 3), "fg.");
        due.is("two characters", wrappedBy(0, "~~").substring(0, 4), "fn4.");
        due.is("three characters", wrappedBy(0, "~~~").substring(0, 5), "fn5-.");
        due.is("four characters", wrappedBy(0, "~~~~").substring(0, 7), "fn5-fg.");
        due.is("one space", wrappedBy(0, " ").substring(0, 3), "IA.");
    }

    /** CLAIMS: "as decimal numbers without leading zeros"; 0 is one digit. */
    private static void claimsHaveNoLeadingNoughts() {
        GrantServer x = new GrantServer(KEY, 10, 60, 600);
        x.client(5, 11, 7);
        x.login(0, 5);
        x.authorize(0, 11, 3, 801724119, 100);
        Bench.type(x, "ab");
        due.is("exchange", x.exchange(100, 11, 1, 200), 1);
        due.is("text", Bench.text(x, true),
            "eyJzdWIiOjAsImF1ZCI6MSwiZXhwIjo2MCwianRpIjoxLCJzY29wZSI6M30.dMIadEm8Dp");
        int[] ends = {1, 9, 10, 99, 100, 999, 1000};
        for (int end : ends) {
            GrantServer y = new GrantServer(KEY, 1, end, 1);
            y.client(5, 11, 15);
            y.login(0, 5);
            y.authorize(0, 11, 10, 0, 1);
            y.exchange(1, 11, 0, 2);
            due.is("end " + end, Bench.text(y, true), Bench.wrapped(KEY, Bench.claims(0, 0, end, 1, 10)));
        }
        for (int time : new int[] {8999, 9000, 9999, 10000}) {
            GrantServer y = new GrantServer(KEY, 1, 1000, 1);
            y.client(5, 11, 15);
            y.login(0, 5);
            y.tick(time);
            y.authorize(0, 11, 10, 0, 1);
            y.exchange(1, 11, 0, 2);
            due.is("at " + time, Bench.text(y, true),
                Bench.wrapped(KEY, Bench.claims(0, 0, time + 1000, 1, 10)));
        }
    }

    /** "THE OUTPUT likewise": the longest text that an access token can have fits well. */
    private static void longestTextOfAnAccessToken() {
        GrantServer x = new GrantServer(KEY, 1, 1000, 1);
        for (int i = 0; i < 4; i++) {
            x.client(i, i, 15);
        }
        x.login(3, 3);
        for (int i = 0; i < 100; i++) {
            x.tick(10000);
        }
        for (int i = 1; i <= 25; i++) {
            x.sweep();
            x.authorize(3, 3, 15, 0, 1);
            x.exchange(1, 3, 3, 2);
            x.refresh(2, 0, 3);
            x.refresh(3, 0, 4);
            x.refresh(4, 0, 5);
            x.tick(1000);
        }
        x.sweep();
        x.authorize(3, 3, 15, 0, 1);
        due.is("access token 101", x.exchange(1, 3, 3, 2), 101);
        due.is("text", Bench.text(x, true), Bench.wrapped(KEY, Bench.claims(3, 3, 1026000, 101, 15)));
        due.is("take", x.take(true), 81);
        due.is("check", x.check(3, 15), 3);
    }

    // Promises 10 to 15

    /** "false, refused, when its code is not 32 .. 126" */
    private static void keyCodes() {
        for (int code = 0; code <= 300; code++) {
            GrantServer x = new GrantServer(1, 1, 1, 1);
            boolean writable = code >= 32 && code <= 126;
            due.is("key " + code, x.key((char) code), writable);
            due.is("input", x.letter(false, 0), writable ? code : GrantServer.NONE);
            due.is("input behind", x.letter(false, 1), GrantServer.NONE);
        }
        for (int code : new int[] {256 + 32, 32768 + 'a', 65535 - 1, 65535}) {
            due.no("key " + code, new GrantServer(1, 1, 1, 1).key((char) code));
        }
    }

    /** "or the input has 120" */
    private static void keyUpToTheMost() {
        GrantServer x = new GrantServer(1, 1, 1, 1);
        for (int i = 0; i < 120; i++) {
            due.yes("character " + i, x.key((char) (32 + i % 95)));
        }
        due.no("character 120", x.key('a'));
        due.no("character 120 again", x.key(' '));
        due.is("letter 119", x.letter(false, 119), 32 + 119 % 95);
        due.is("letter 120", x.letter(false, 120), GrantServer.NONE);
        due.is("the first", x.letter(false, 0), 32);
        x.take(false);
        due.yes("after it was emptied", x.key('a'));
        due.is("letter 1", x.letter(false, 1), GrantServer.NONE);
    }

    /** "false, refused, when there is none" */
    private static void alterPlaces() {
        for (int size : new int[] {0, 1, 2, 119, 120}) {
            for (int place : new int[] {LEAST, -1, 0, 1, 2, 118, 119, 120, 121, MOST}) {
                GrantServer x = new GrantServer(1, 1, 1, 1);
                Bench.type(x, "m".repeat(size));
                boolean there = place >= 0 && place < size;
                due.is("alter " + place + " of " + size, x.alter(place, '!'), there);
                due.is("letter " + place, x.letter(false, place), there ? '!' : GrantServer.NONE);
                due.is("how many", Bench.text(x, false).replace("!", "m"), "m".repeat(size));
            }
        }
        GrantServer y = new GrantServer(1, 1, 1, 1);
        Bench.type(y, "abc");
        y.wrap();
        y.take(false);
        due.no("of an emptied input, where the output has one", y.alter(0, 'a'));
    }

    /** "or c's code is not 32 .. 126" */
    private static void alterCodes() {
        for (int code = 0; code <= 300; code++) {
            GrantServer x = new GrantServer(1, 1, 1, 1);
            Bench.type(x, "mmm");
            boolean writable = code >= 32 && code <= 126;
            due.is("alter to " + code, x.alter(1, (char) code), writable);
            due.is("input", Bench.text(x, false), writable ? "m" + (char) code + "m" : "mmm");
        }
        due.no("alter to 65535", server().alter(0, (char) 65535));
    }

    /** "The input becomes the output .. otherwise empty": of an empty output, and of an empty input. */
    private static void takeOfAnEmptyOutput() {
        GrantServer x = new GrantServer(1, 1, 1, 1);
        due.is("nothing from nothing", x.take(true), 0);
        due.is("nothing emptied", x.take(false), 0);
        Bench.type(x, "m".repeat(120));
        due.is("an empty output over a full input", x.take(true), 0);
        due.is("letter 0", x.letter(false, 0), GrantServer.NONE);
        Bench.type(x, "m".repeat(120));
        due.is("a full input emptied", x.take(false), 0);
        due.is("letter 0", x.letter(false, 0), GrantServer.NONE);
    }

    /** "Answers how many characters it has": of the longest output, over a full and an empty input. */
    private static void takeOfTheLongestOutput() {
        GrantServer x = new GrantServer(1, 1, 1, 1);
        Bench.type(x, "m".repeat(81));
        due.is("wrap", x.wrap(), 119);
        due.is("take", x.take(true), 119);
        due.yes("one character more", x.key('a'));
        due.no("and no other", x.key('a'));
        due.is("take over a longer one", x.take(true), 119);
        due.is("letter 119", x.letter(false, 119), GrantServer.NONE);
        due.is("take of none, the output stays", x.take(false), 0);
        due.is("take over none", x.take(true), 119);
        due.is("input", Bench.text(x, false), Bench.wrapped(1, "m".repeat(81)));
    }

    /** "NONE when there is none" */
    private static void letterPlaces() {
        GrantServer x = new GrantServer(0, 1, 1, 1);
        Bench.type(x, "ab");
        x.wrap();
        for (int place : new int[] {LEAST, -1, 120, 121, MOST}) {
            due.is("input " + place, x.letter(false, place), GrantServer.NONE);
            due.is("output " + place, x.letter(true, place), GrantServer.NONE);
        }
        due.is("first of the input", x.letter(false, 0), 'a');
        due.is("last of the input", x.letter(false, 1), 'b');
        due.is("behind the input", x.letter(false, 2), GrantServer.NONE);
        due.is("first of the output", x.letter(true, 0), 'Y');
        due.is("last of the output", x.letter(true, 13), 'x');
        due.is("behind the output", x.letter(true, 14), GrantServer.NONE);
        Bench.type(x, "c");
        due.is("what was there", x.letter(false, 1), GrantServer.NONE);
        x.take(false);
        x.wrap();
        due.is("last of a shorter output", x.letter(true, 10), 'A');
        due.is("what was there in the output", x.letter(true, 11), GrantServer.NONE);
    }

    /** "(of none a point and ten signs)" */
    private static void wrapOfNone() {
        GrantServer x = new GrantServer(63, 1, 1, 1);
        due.is("wrap", x.wrap(), 11);
        due.is("output", Bench.text(x, true), ".AAAAAAAAA_");
        due.is("the input stays", x.letter(false, 0), GrantServer.NONE);
    }

    /** "NONE, refused .., when there would be more than 120": 81 characters make 119, 82 make 121. */
    private static void wrapUpToTheMost() {
        int[][] sizes = {
            {1, 13}, {2, 14}, {3, 15}, {4, 17}, {79, 117}, {80, 118}, {81, 119}, {82, -1}, {83, -1},
            {84, -1}, {119, -1}, {120, -1},
        };
        for (int[] size : sizes) {
            GrantServer x = new GrantServer(1, 1, 1, 1);
            Bench.type(x, "m".repeat(size[0]));
            due.is("wrap of " + size[0], x.wrap(), size[1]);
            due.is("take", x.take(true), Math.max(0, size[1]));
        }
    }

    /** "(the output stays)" */
    private static void refusedWrapLeavesTheOutput() {
        GrantServer x = server();
        String before = Bench.text(x, true);
        Bench.type(x, "m".repeat(82));
        due.is("wrap", x.wrap(), GrantServer.NONE);
        due.is("output", Bench.text(x, true), before);
        due.is("input", Bench.text(x, false), "m".repeat(82));
    }

    // Promise 9, FORM

    /** "a point and ten signs" */
    private static void formHasTenSignsBehindThePoint() {
        for (String signs : new String[] {"", "AA", "AAA", "AAAA", "AAAAAAAA"}) {
            String seal = Bench.seal(KEY, signs);
            due.is("ten", checked(signs + "." + seal), GrantServer.CLAIMS);
            due.is("nine", checked(signs + "." + seal.substring(1)), GrantServer.FORM);
            due.is("nine", checked(signs + "." + seal.substring(0, 9)), GrantServer.FORM);
            due.is("eleven", checked(signs + "." + seal + "A"), GrantServer.FORM);
            due.is("eleven", checked(signs + ".A" + seal), GrantServer.FORM);
            due.is("none", checked(signs + "."), GrantServer.FORM);
            due.is("no point", checked(signs + seal), GrantServer.FORM);
        }
        for (int size = 0; size <= 10; size++) {
            due.is("a point at the end of " + size, checked("A".repeat(size) + "."), GrantServer.FORM);
            due.is("only " + size + " signs", checked("A".repeat(size)), GrantServer.FORM);
        }
    }

    /** SIGNS are "A .. Z, a .. z, 0 .. 9, - and _": before the point and behind it. */
    private static void formHasSignsAlone() {
        for (char c = 32; c <= 126; c++) {
            boolean sign = SIGNS.indexOf(c) >= 0;
            due.is("first " + c, checked(Bench.sealed(KEY, c + "AAA")),
                sign ? GrantServer.CLAIMS : GrantServer.FORM);
            due.is("last " + c, checked(Bench.sealed(KEY, "AAA" + c)),
                sign ? GrantServer.CLAIMS : GrantServer.FORM);
            int want = sign ? GrantServer.FORGED : GrantServer.FORM;
            String seal = Bench.seal(KEY, "AAAA");
            if (c != seal.charAt(0)) {
                due.is("first of the seal " + c, checked("AAAA." + c + seal.substring(1)), want);
            }
            if (c != seal.charAt(9)) {
                due.is("last of the seal " + c, checked("AAAA." + seal.substring(0, 9) + c), want);
            }
        }
    }

    /** "signs (perhaps none), a point": one point, in its place. */
    private static void formHasOnePoint() {
        String text = "AAAAAAAAAAAAAAAAAAA";
        for (int first = 0; first < text.length(); first++) {
            String one = text.substring(0, first) + "." + text.substring(first + 1);
            due.is("a point at " + first + " of 19", checked(one),
                first == 8 ? GrantServer.FORGED : GrantServer.FORM);
            if (first != 8) {
                String two = one.substring(0, 8) + "." + one.substring(9);
                due.is("points at 8 and " + first + " of 19", checked(two), GrantServer.FORM);
            }
        }
    }

    /** "or the signs before the point are one more than a multiple of four" */
    private static void formIsNotOneMoreThanAMultipleOfFour() {
        for (int size = 0; size <= 109; size++) {
            sealedIs("A".repeat(size), size % 4 == 1 ? GrantServer.FORM : GrantServer.CLAIMS);
        }
    }

    /** "or bits that were filled up at their end are not 0" */
    private static void formHasNoughtsFilledUp() {
        for (String before : new String[] {"", "AAAA", "____"}) {
            for (int i = 0; i < 64; i++) {
                char last = SIGNS.charAt(i);
                sealedIs(before + "_" + last, i % 16 == 0 ? GrantServer.CLAIMS : GrantServer.FORM);
                sealedIs(before + "__" + last, i % 4 == 0 ? GrantServer.CLAIMS : GrantServer.FORM);
                sealedIs(before + "___" + last, GrantServer.CLAIMS);
            }
        }
    }

    /** The input of 120 characters has no form at all: 109 signs are one more than a multiple of four. */
    private static void formAtTheMost() {
        sealedIs("A".repeat(108), GrantServer.CLAIMS);
        sealedIs("A".repeat(109), GrantServer.FORM);
        claimsAre(GOOD + " ".repeat(81 - GOOD.length()), 0);
        due.is("of 81", Bench.wrapped(KEY, GOOD + " ".repeat(81 - GOOD.length())).length(), 119);
    }

    // Promise 9, FORGED

    /** "the ten signs are not the seal of those before the point": each of its 60 bits counts. */
    private static void forgedInEachBit() {
        String text = Bench.wrapped(KEY, GOOD);
        for (int i = text.length() - 10; i < text.length(); i++) {
            for (int bit = 0; bit < 6; bit++) {
                char other = SIGNS.charAt(SIGNS.indexOf(text.charAt(i)) ^ 1 << bit);
                due.is("bit " + bit + " of sign " + i,
                    checked(text.substring(0, i) + other + text.substring(i + 1)), GrantServer.FORGED);
            }
        }
        due.is("as it was", checked(text), 0);
    }

    private static void forgedByAnotherKey() {
        for (int key : new int[] {KEY - 1, KEY + 1, -KEY, 0, KEY + 65536, KEY | LEAST}) {
            due.is("key " + key, checked(Bench.wrapped(key, GOOD)), GrantServer.FORGED);
            due.is("key " + key + ", of none", checked(Bench.wrapped(key, "")), GrantServer.FORGED);
        }
    }

    // Promise 9, CLAIMS

    /** "members .., at least one": none, or too few. */
    private static void claimsOfNothing() {
        for (String claims : new String[] {
            "", " ", "{}", "{ }", " { } ", "{,}", "{:}", "{,,,,}", "{\"sub\":0}",
        }) {
            claimsAre(claims, GrantServer.CLAIMS);
        }
    }

    /** "an opening brace; .. a closing brace", with spaces alone before and behind. */
    private static void claimsNeedTheirBraces() {
        String inside = GOOD.substring(1, GOOD.length() - 1);
        claimsAre("{" + inside + "}", 0);
        for (String open : new String[] {"", "{{", "}", "[", "(", ",{", "{,", "x{", "{x"}) {
            claimsAre(open + inside + "}", GrantServer.CLAIMS);
        }
        for (String close : new String[] {
            "", "}}", "{", "]", ")", "},", ",}", "}x", "x}", "} x", "}.", "}{",
        }) {
            claimsAre("{" + inside + close, GrantServer.CLAIMS);
        }
        claimsAre("{" + GOOD + "}", GrantServer.CLAIMS);
    }

    /** "members with commas between them": one between each two, none before and none behind. */
    private static void claimsNeedTheirCommas() {
        int at = GOOD.indexOf(',');
        while (at >= 0) {
            for (String comma : new String[] {"", " ", ",,", ", ,", ";", ":", "."}) {
                claimsAre(GOOD.substring(0, at) + comma + GOOD.substring(at + 1), GrantServer.CLAIMS);
            }
            at = GOOD.indexOf(',', at + 1);
        }
        claimsAre(GOOD.replace("}", ",}"), GrantServer.CLAIMS);
        claimsAre(GOOD.replace("{", "{,"), GrantServer.CLAIMS);
    }

    /** "a name is one of the five, and each of them must stand there exactly once, in any order" */
    private static void claimsNeedEachNameOnce() {
        String[] members = {"\"sub\":0", "\"aud\":1", "\"exp\":60", "\"jti\":1", "\"scope\":5"};
        for (int gone = 0; gone < 5; gone++) {
            StringBuilder four = new StringBuilder();
            for (int i = 0; i < 5; i++) {
                four.append(i == gone ? "" : "," + members[i]);
            }
            String rest = four.substring(1);
            claimsAre("{" + rest + "}", GrantServer.CLAIMS);
            for (int i = 0; i < 5; i++) {
                claimsAre("{" + rest + "," + members[i] + "}", i == gone ? 0 : GrantServer.CLAIMS);
                claimsAre("{" + members[i] + "," + rest + "}", i == gone ? 0 : GrantServer.CLAIMS);
            }
            claimsAre("{" + rest + "," + members[gone] + "," + members[gone] + "}", GrantServer.CLAIMS);
            claimsAre("{" + rest + "," + members[gone] + ",\"iat\":0}", GrantServer.CLAIMS);
            claimsAre("{" + rest + ",\"iat\":0}", GrantServer.CLAIMS);
        }
        everyOrder(members, 0);
    }

    private static void everyOrder(String[] members, int from) {
        if (from == members.length) {
            claimsAre("{" + String.join(",", members) + "}", 0);
            return;
        }
        for (int i = from; i < members.length; i++) {
            swap(members, from, i);
            everyOrder(members, from + 1);
            swap(members, from, i);
        }
    }

    private static void swap(String[] members, int i, int j) {
        String held = members[i];
        members[i] = members[j];
        members[j] = held;
    }

    /** "A member is a name in quotation marks, a colon, a number" */
    private static void claimsNeedNamesInQuotationMarks() {
        for (String name : new String[] {"sub", "aud", "exp", "jti", "scope"}) {
            String quoted = "\"" + name + "\"";
            String[] others = {
                name, "\"" + name, name + "\"", "'" + name + "'", "\"" + quoted, quoted + "\"", "\"\"",
                "\"" + name.substring(1) + "\"", "\"" + name.substring(0, name.length() - 1) + "\"",
                "\"" + name + "s\"", "\"x" + name + "\"", "\"" + name.toUpperCase() + "\"",
                "\" " + name + "\"",
                "\"" + name + " \"", quoted + quoted, "",
                "'" + name + "\"", "\"" + name + "'", " " + name + "\"", "\"" + name + ":",
            };
            for (String other : others) {
                claimsAre(GOOD.replace(quoted, other), GrantServer.CLAIMS);
            }
            for (String colon : new String[] {"", "::", ": :", "=", ",", ";", " "}) {
                claimsAre(GOOD.replace(quoted + ":", quoted + colon), GrantServer.CLAIMS);
            }
            for (String member : new String[] {quoted, quoted + ":", ":0", "0", "0:" + quoted, ""}) {
                claimsAre(GOOD.replaceFirst(quoted + ":[0-9]+", member), GrantServer.CLAIMS);
            }
        }
    }

    /** "one to nine digits": of each member, and what becomes of the value. */
    private static void claimsNumbersUpToNineDigits() {
        String[] members = {"\"sub\":0", "\"aud\":1", "\"exp\":60", "\"jti\":1", "\"scope\":5"};
        int[] greatest = {999999999, GrantServer.AUDIENCE, 0, GrantServer.DEAD, 0};
        int[] least = {100000000, GrantServer.AUDIENCE, 0, GrantServer.DEAD, GrantServer.SCOPE};
        for (int i = 0; i < 5; i++) {
            String name = members[i].substring(0, members[i].indexOf(':') + 1);
            claimsAre(GOOD.replace(members[i], name + "999999999"), greatest[i]);
            claimsAre(GOOD.replace(members[i], name + "100000000"), least[i]);
            for (String number : new String[] {
                "1000000000", "9999999999", "4294967297", "4294967356", "12345678901", "", " ",
            }) {
                claimsAre(GOOD.replace(members[i], name + number), GrantServer.CLAIMS);
            }
        }
    }

    /** "a number is 0, or .. digits the first of which is not 0" */
    private static void claimsNumbersWithoutLeadingNoughts() {
        String[] members = {"\"sub\":0", "\"aud\":1", "\"exp\":60", "\"jti\":1", "\"scope\":5"};
        int[] nought = {0, GrantServer.AUDIENCE, GrantServer.EXPIRED, GrantServer.DEAD, GrantServer.SCOPE};
        for (int i = 0; i < 5; i++) {
            String name = members[i].substring(0, members[i].indexOf(':') + 1);
            claimsAre(GOOD.replace(members[i], name + "0"), nought[i]);
            for (String number : new String[] {
                "00", "01", "060", "05", "000000001", "0000000001", "-1", "+1", "-0", "1.0", "0.0", "1e1",
                "0x1", "1x", "x1", "1:", "1/", "\"1\"", "1 1", "0 0", "1,1", "--1",
            }) {
                claimsAre(GOOD.replace(members[i], name + number), GrantServer.CLAIMS);
            }
        }
    }

    /** "Spaces may stand before and behind braces, commas, colons, names .., and numbers." */
    private static void claimsSpacesBetween() {
        String[] parts = {
            "{", "\"sub\"", ":", "0", ",", "\"aud\"", ":", "1", ",", "\"exp\"", ":", "60", ",",
            "\"jti\"", ":", "1", ",", "\"scope\"", ":", "5", "}",
        };
        for (int gap = 0; gap <= parts.length; gap++) {
            for (int spaces : new int[] {1, 2, 81 - GOOD.length()}) {
                claimsAre(joined(parts, gap, " ".repeat(spaces)), 0);
            }
        }
        claimsAre(" " + String.join(" ", parts) + " ", 0);
    }

    private static String joined(String[] parts, int gap, String filling) {
        StringBuilder text = new StringBuilder();
        for (int i = 0; i <= parts.length; i++) {
            text.append(i == gap ? filling : "");
            text.append(i < parts.length ? parts[i] : "");
        }
        return text.toString();
    }

    /** Spaces may stand nowhere else: neither in a name nor in a number. */
    private static void claimsNoSpacesInside() {
        for (int i = 1; i < GOOD.length(); i++) {
            boolean inName = isNamePart(GOOD.charAt(i - 1)) && isNamePart(GOOD.charAt(i));
            boolean inNumber = isDigit(GOOD.charAt(i - 1)) && isDigit(GOOD.charAt(i));
            claimsAre(GOOD.substring(0, i) + " " + GOOD.substring(i),
                inName || inNumber ? GrantServer.CLAIMS : 0);
        }
    }

    private static boolean isNamePart(char c) {
        return c == '"' || Character.isLetter(c);
    }

    /** Only the space is one: no other character may stand in its stead, whatever its eight bits. */
    private static void claimsNoOtherCharacters() {
        String[] parts = {"{", "\"sub\"", ":", GOOD.substring(7)};
        for (int code = 0; code <= 255; code++) {
            for (int gap = 0; gap <= parts.length; gap++) {
                // Behind the colon a digit would be one of the number, not between it and others.
                if (gap != 3 || !isDigit(code)) {
                    claimsAre(joined(parts, gap, String.valueOf((char) code)),
                        code == ' ' ? 0 : GrantServer.CLAIMS);
                }
            }
        }
    }

    private static boolean isDigit(int code) {
        return code >= '0' && code <= '9';
    }

    // Promise 9, what follows

    /** "EXPIRED: exp is not after the time." */
    private static void expiredAtTheEnd() {
        for (int end : new int[] {0, 1, 9, 10, 11, 12, 60, 61, 999999999}) {
            claimsAre(Bench.claims(0, 1, end, 1, 5), end <= 10 ? GrantServer.EXPIRED : 0);
        }
        for (int time : new int[] {48, 49, 50, 51}) {
            GrantServer x = server();
            x.take(true);
            x.tick(time);
            due.is("at " + (10 + time), x.check(1, 5), time < 50 ? 0 : GrantServer.EXPIRED);
        }
    }

    /** "DEAD: no access token with the number jti is active." */
    private static void deadWhenNotActive() {
        for (int number : new int[] {0, 1, 2, 100, 200, 65537, 999999999}) {
            claimsAre(Bench.claims(0, 1, 60, number, 5), number == 1 ? 0 : GrantServer.DEAD);
        }
        GrantServer ended = server();
        Bench.type(ended, Bench.wrapped(KEY, Bench.claims(0, 1, 61, 1, 5)));
        ended.tick(49);
        due.is("a tick before its end", ended.check(1, 5), 0);
        ended.tick(1);
        due.is("at its end, exp later", ended.check(1, 5), GrantServer.DEAD);
        ended.sweep();
        due.is("swept, exp later", ended.check(1, 5), GrantServer.DEAD);
        GrantServer revoked = server();
        revoked.take(true);
        revoked.revoke(2, 1);
        due.is("revoked itself", revoked.check(1, 5), GrantServer.DEAD);
        GrantServer family = server();
        family.take(true);
        family.revoke(1, 200);
        due.is("its family revoked", family.check(1, 5), GrantServer.DEAD);
        GrantServer spent = server();
        spent.take(true);
        spent.refresh(200, 0, 201);
        due.is("its refresh token spent", spent.check(1, 5), 0);
    }

    /** "AUDIENCE: aud is another one." */
    private static void audienceIsItsOwn() {
        for (int audience : new int[] {LEAST, -1, 0, 1, 2, 3, 4, 257, MOST}) {
            GrantServer x = server();
            x.take(true);
            due.is("audience " + audience, x.check(audience, 5), audience == 1 ? 0 : GrantServer.AUDIENCE);
        }
        GrantServer y = server();
        Bench.type(y, Bench.wrapped(KEY, Bench.claims(0, 999999999, 60, 1, 5)));
        due.is("the greatest", y.check(999999999, 5), 0);
        due.is("one less", y.check(999999998, 5), GrantServer.AUDIENCE);
    }

    /** "(whose lowest four bits count)" and "among the lowest four bits of scope" */
    private static void scopesInFourBits() {
        int[] above = {0, 16, 32, -16, LEAST};
        for (int has = 0; has <= 15; has++) {
            for (int more : new int[] {0, 16, 240, 999999984}) {
                GrantServer x = server();
                Bench.type(x, Bench.wrapped(KEY, Bench.claims(0, 1, 60, 1, has + more)));
                for (int scopes = 0; scopes <= 15; scopes++) {
                    for (int high : above) {
                        due.is("scopes " + (scopes | high) + " of " + (has + more),
                            x.check(1, scopes | high), (has | scopes) == has ? 0 : GrantServer.SCOPE);
                    }
                }
            }
        }
    }

    /** "Otherwise it is sub.", as the text tells it. */
    private static void subAtTheMost() {
        for (int sub : new int[] {0, 1, 3, 4, 9, 10, 999999999}) {
            claimsAre(Bench.claims(sub, 1, 60, 1, 5), sub);
        }
    }
}
