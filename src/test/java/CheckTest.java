/** Promise 9 (check), and the terms that it rests on: wrapped, the seal, claims. */
public final class CheckTest {
    private static final int KEY = Bench.KEY;
    private static final Due due = new Due("CheckTest");

    public static void main(String[] args) {
        goodTextsPass();
        inputStays();
        formIsLookedAt();
        filledBitsMustBeZero();
        sealIsLookedAt();
        sealOfEveryPlace();
        claimsInAnyOrder();
        claimsWithSpaces();
        claimsThatAreNone();
        numbersInClaims();
        charactersOutsideTheKeyboard();
        expiredIsLookedAt();
        deadIsLookedAt();
        audienceIsLookedAt();
        scopesAreLookedAt();
        refusalsComeInOrder();
        subIsAsWritten();
        due.end();
    }

    /** A server at time 10 with access token 1 of client 0, audience 1, scopes 5, end 60. */
    private static GrantServer server() {
        GrantServer x = Bench.exchanged(5);
        x.tick(10);
        return x;
    }

    private static int checked(String text) {
        GrantServer x = server();
        Bench.type(x, text);
        return x.check(1, 5);
    }

    private static int checkedClaims(String claims) {
        return checked(Bench.wrapped(KEY, claims));
    }

    private static void isGood(String claims) {
        due.is("check of " + claims, checkedClaims(claims), 0);
    }

    private static void isNone(String claims) {
        due.is("check of " + claims, checkedClaims(claims), GrantServer.CLAIMS);
    }

    private static void goodTextsPass() {
        GrantServer x = server();
        due.is("take", x.take(true), 70);
        due.is("its audience and scopes", x.check(1, 5), 0);
        x.client(6, 12, 15);
        x.login(1, 6);
        due.is("another logged in", x.check(1, 5), 0);
        x.login(1, 7);
        due.is("nobody logged in", x.check(1, 5), 0);
        x.login(1, 6);
        x.authorize(1, 12, 2, Bench.challengeOf(Bench.text(x, false)), 101);
        due.is("exchange", x.exchange(101, 12, 0, 201), 2);
        x.take(true);
        due.is("token of client 1", x.check(0, 2), 1);
    }

    private static void inputStays() {
        GrantServer x = server();
        x.take(true);
        String text = Bench.text(x, false);
        due.is("check", x.check(1, 5), 0);
        due.is("check again", x.check(1, 5), 0);
        due.is("input", Bench.text(x, false), text);
        due.is("output", Bench.text(x, true), text);
        x.key('!');
        due.is("check of a longer text", x.check(1, 5), GrantServer.FORM);
        due.is("input", Bench.text(x, false), text + "!");
    }

    private static void formIsLookedAt() {
        String seal = Bench.seal(KEY, "");
        String[] wrong = {
            "", ".", "A", seal, "." + seal.substring(1), "." + seal + "A", seal + ".",
            ".." + seal.substring(1), ".." + seal, "AA.A." + seal, "AAAA" + seal, "AAAA:" + seal,
            "AA+A." + seal, "AA/A." + seal, "AA=A." + seal, "AA A." + seal, "AAA=." + seal,
            "AA@A." + seal, "AA[A." + seal, "AA`A." + seal, "AA{A." + seal, "AA^A." + seal,
            "A,AA." + seal, "A:AA." + seal,
            "AAAA." + seal.substring(1) + "=", "AAAA." + seal.substring(1) + ".",
            "AAAA.+" + seal.substring(1), "!AAA." + seal, "AAA!." + seal,
            Bench.sealed(KEY, "A"), Bench.sealed(KEY, "AAAAA"), Bench.sealed(KEY, "A".repeat(77)),
            Bench.sealed(KEY, "A".repeat(109)), "A".repeat(120), ".".repeat(11), ".".repeat(120),
            " " + Bench.wrapped(KEY, "abc"), Bench.wrapped(KEY, "abc") + " ",
        };
        for (String text : wrong) {
            due.is("check of " + text, checked(text), GrantServer.FORM);
        }
        due.is("no signs with their seal", checked("." + seal), GrantServer.CLAIMS);
        due.is("108 signs", checked(Bench.sealed(KEY, "A".repeat(108))), GrantServer.CLAIMS);
        due.is("all signs", checked(Bench.sealed(KEY,
            "ABCDEFGHIJKLMNOPQRSTUVWXYZabcdefghijklmnopqrstuvwxyz0123456789-_")), GrantServer.CLAIMS);
    }

    private static void filledBitsMustBeZero() {
        String signs = "ABCDEFGHIJKLMNOPQRSTUVWXYZabcdefghijklmnopqrstuvwxyz0123456789-_";
        for (int i = 0; i < 64; i++) {
            String last = signs.substring(i, i + 1);
            due.is("two signs, the last " + i, checked(Bench.sealed(KEY, "e" + last)),
                i % 16 == 0 ? GrantServer.CLAIMS : GrantServer.FORM);
            due.is("three signs, the last " + i, checked(Bench.sealed(KEY, "eA" + last)),
                i % 4 == 0 ? GrantServer.CLAIMS : GrantServer.FORM);
            due.is("four signs, the last " + i, checked(Bench.sealed(KEY, "eAA" + last)),
                GrantServer.CLAIMS);
            due.is("six signs, the last " + i, checked(Bench.sealed(KEY, "eAAAA" + last)),
                i % 16 == 0 ? GrantServer.CLAIMS : GrantServer.FORM);
        }
    }

    private static void sealIsLookedAt() {
        String good = Bench.claims(0, 1, 60, 1, 5);
        due.is("seal of another key", checked(Bench.wrapped(KEY + 1, good)), GrantServer.FORGED);
        due.is("no signs, a wrong seal", checked(".AAAAAAAAAA"), GrantServer.FORGED);
        due.is("wrong seal, no claims", checked("AAAA.AAAAAAAAAA"), GrantServer.FORGED);
        due.is("wrong seal, bits filled up", checked("eB.AAAAAAAAAA"), GrantServer.FORM);
        int[] keys = {0, -1, Integer.MIN_VALUE, Integer.MAX_VALUE};
        for (int key : keys) {
            GrantServer x = new GrantServer(key, 1, 100, 1);
            Bench.type(x, Bench.wrapped(key, good));
            due.is("right seal, key " + key, x.check(1, 5), GrantServer.DEAD);
        }
    }

    private static void sealOfEveryPlace() {
        String text = Bench.wrapped(KEY, Bench.claims(0, 1, 60, 1, 5));
        int point = text.indexOf('.');
        for (int i = 0; i < text.length(); i++) {
            if (i != point) {
                GrantServer x = server();
                x.take(true);
                x.alter(i, text.charAt(i) == 'A' ? 'Q' : 'A');
                due.is("another sign at " + i, x.check(1, 5), GrantServer.FORGED);
                x.alter(i, text.charAt(i));
                due.is("the sign again at " + i, x.check(1, 5), 0);
            }
        }
    }

    private static void claimsInAnyOrder() {
        String[] members = {"\"sub\":0", "\"aud\":1", "\"exp\":60", "\"jti\":1", "\"scope\":5"};
        int[] step = {1, 2, 3, 4};
        for (int first = 0; first < 5; first++) {
            for (int by : step) {
                StringBuilder claims = new StringBuilder("{");
                for (int i = 0; i < 5; i++) {
                    claims.append(i == 0 ? "" : ",").append(members[(first + by * i) % 5]);
                }
                isGood(claims.append("}").toString());
            }
        }
    }

    private static void claimsWithSpaces() {
        String[] parts = {
            "{", "\"sub\"", ":", "0", ",", "\"aud\"", ":", "1", ",", "\"exp\"", ":", "60", ",",
            "\"jti\"", ":", "1", ",", "\"scope\"", ":", "5", "}",
        };
        for (int gap = 0; gap <= parts.length; gap++) {
            for (int spaces = 1; spaces <= 3; spaces++) {
                StringBuilder claims = new StringBuilder();
                for (int i = 0; i <= parts.length; i++) {
                    claims.append(i == gap ? " ".repeat(spaces) : "");
                    claims.append(i < parts.length ? parts[i] : "");
                }
                isGood(claims.toString());
            }
        }
        StringBuilder wide = new StringBuilder(" ");
        for (String part : parts) {
            wide.append(part).append(" ");
        }
        isGood(wide.toString());
        isGood(" ".repeat(37) + Bench.claims(0, 1, 60, 1, 5));
        isGood(Bench.claims(0, 1, 60, 1, 5) + " ".repeat(37));
    }

    private static void claimsThatAreNone() {
        String good = Bench.claims(0, 1, 60, 1, 5);
        isGood(good);
        String[] wrong = {
            "", " ", "{", "}", "{}", "{ }", "{,}", "{{}}",
            good.substring(1), good.substring(0, good.length() - 1), "{" + good, good + "}",
            good + ",", good + "x", "x" + good, good + " x", "[" + good.substring(1), good + "{\"sub\":0}",
            good.replace("}", ",}"), good.replace("{", "{,"), good.replaceFirst(",", ",,"),
            good.replaceFirst(",", ""), good.replaceFirst(",", " "), good.replaceFirst(",", ";"),
            good.replaceFirst(":", ""), good.replaceFirst(":", "::"), good.replaceFirst(":", "="),
            good.replace("}", "]"), good.replace("\"sub\"", "sub"), good.replace("\"sub\"", "\"sub"),
            good.replace("\"sub\"", "sub\""), good.replace("\"sub\"", "'sub'"),
            good.replace("\"sub\"", "\"\"sub\"\""), good.replace("\"sub\"", "\"\""),
            good.replace("sub", " sub"), good.replace("sub", "sub "), good.replace("sub", "s ub"),
            good.replace("sub", "Sub"), good.replace("sub", "SUB"), good.replace("sub", "su"),
            good.replace("sub", "subs"), good.replace("scope", "scop"), good.replace("scope", "scopes"),
            good.replace("sub", "iss"), good.replace("sub", "aud"), good.replace("sub", "jti"),
            good.replace("jti", "exp"), good.replace("scope", "sub"),
            good.replace("\"sub\"", "'sub\""), good.replace("\"sub\"", "\"sub'"),
            good.replace("\"sub\"", " sub\""), good.replace("\"scope\"", "xscope\""),
            good.replace("\"sub\":0", ""), good.replace("\"aud\":1", ""),
            good.replace("\"scope\":5", ""), good.replace("\"sub\":0", "\"sub\""),
            good.replace("\"jti\":1", "\"jti\""), good.replace("\"scope\":5", "\"scope\""),
            good.replace("\"sub\":0", "\"sub\":"), good.replace("\"sub\":0", ":0"),
            good.replace("\"sub\":0", "0"), good.replace("\"sub\":0", "0:\"sub\""),
            good.replace("\"sub\":0,", ""), good.replace(",\"aud\":1", ""),
            good.replace(",\"exp\":60", ""), good.replace(",\"jti\":1", ""),
            good.replace(",\"scope\":5", ""), "{\"sub\":0}",
            good.replace("}", ",\"sub\":0}"), good.replace("}", ",\"scope\":5}"),
            good.replace("}", ",\"iat\":5}"),
            good.replace("5}", "}"), good.replace("5}", "\"5\"}"), good.replace("5}", "5 5}"),
            good.replace("0,", ",0"), good.replace("60", "6 0"), good.replace("60", ""),
        };
        for (String claims : wrong) {
            isNone(claims);
        }
    }

    private static void numbersInClaims() {
        String good = Bench.claims(0, 1, 60, 1, 5);
        String[] wrong = {
            "00", "01", "000000005", "0000000000", "1000000000", "9999999999", "1234567890",
            "4294967301", "18446744073709551621", "-5", "+5", "-0", "5.0", "5e0", "0x5", "5a", "a5",
            "a", ":", "/", "5:", "5/", "null", "true",
        };
        for (String number : wrong) {
            isNone(good.replace("5}", number + "}"));
            isNone(good.replace(":0,", ":" + number + ","));
        }
        isGood(good.replace("60", "999999999"));
        isGood(good.replace("60", "100000000"));
        isGood(good.replace("60", "900000000"));
        isGood(good.replace("5}", "123456789}"));
        due.is("jti 0", checkedClaims(good.replace("\"jti\":1", "\"jti\":0")), GrantServer.DEAD);
        due.is("exp 0", checkedClaims(good.replace("60", "0")), GrantServer.EXPIRED);
        due.is("scope 0", checkedClaims(good.replace("5}", "0}")), GrantServer.SCOPE);
        due.is("aud 0", checkedClaims(good.replace("\"aud\":1", "\"aud\":0")), GrantServer.AUDIENCE);
    }

    /** Signs can tell any eight bits, so what was wrapped may have characters that no key gives. */
    private static void charactersOutsideTheKeyboard() {
        String good = Bench.claims(0, 1, 60, 1, 5);
        int[] codes = {0, 9, 10, 13, 31, 127, 128, 160, 255};
        for (int code : codes) {
            isNone((char) code + good);
            isNone(good + (char) code);
            isNone(good.replaceFirst(",", "," + (char) code));
            isNone(good.replaceFirst(":", (char) code + ":"));
        }
        isNone(good.replace('s', (char) ('s' + 128)));
        isNone(good.replace('5', (char) ('5' + 128)));
    }

    private static void expiredIsLookedAt() {
        GrantServer x = server();
        x.take(true);
        x.tick(49);
        due.is("at 59", x.check(1, 5), 0);
        x.tick(1);
        due.is("at 60", x.check(1, 5), GrantServer.EXPIRED);
        due.is("exp 9 at 10", checkedClaims(Bench.claims(0, 1, 9, 1, 5)), GrantServer.EXPIRED);
        due.is("exp 10 at 10", checkedClaims(Bench.claims(0, 1, 10, 1, 5)), GrantServer.EXPIRED);
        due.is("exp 11 at 10", checkedClaims(Bench.claims(0, 1, 11, 1, 5)), 0);
        Bench.type(x, Bench.wrapped(KEY, Bench.claims(0, 1, 999999999, 1, 5)));
        due.is("a longer exp than the token's end", x.check(1, 5), GrantServer.DEAD);
    }

    private static void deadIsLookedAt() {
        int[] numbers = {0, 2, 100, 200, 65537, 999999999};
        for (int number : numbers) {
            due.is("jti " + number, checkedClaims(Bench.claims(0, 1, 60, number, 5)), GrantServer.DEAD);
        }
        GrantServer x = server();
        x.refresh(200, 0, 201);
        x.take(true);
        due.is("the second token", x.check(1, 5), 0);
        x.revoke(2, 1);
        due.is("the first one revoked", x.check(1, 5), 0);
        x.revoke(2, 2);
        due.is("itself revoked", x.check(1, 5), GrantServer.DEAD);
        GrantServer y = server();
        y.take(true);
        y.revoke(1, 200);
        due.is("its family revoked", y.check(1, 5), GrantServer.DEAD);
    }

    private static void audienceIsLookedAt() {
        GrantServer x = server();
        x.take(true);
        int[] others = {0, 2, 3, 4, -1, 257, Integer.MIN_VALUE, Integer.MAX_VALUE};
        for (int audience : others) {
            due.is("audience " + audience, x.check(audience, 5), GrantServer.AUDIENCE);
        }
        Bench.type(x, Bench.wrapped(KEY, Bench.claims(0, 77, 60, 1, 5)));
        due.is("what the text says counts", x.check(77, 5), 0);
        due.is("not what the token has", x.check(1, 5), GrantServer.AUDIENCE);
    }

    private static void scopesAreLookedAt() {
        for (int has = 0; has <= 15; has++) {
            GrantServer x = server();
            Bench.type(x, Bench.wrapped(KEY, Bench.claims(0, 1, 60, 1, has)));
            for (int asked = 0; asked <= 15; asked++) {
                int want = (asked & has) == asked ? 0 : GrantServer.SCOPE;
                due.is("scopes " + asked + " of " + has, x.check(1, asked), want);
                due.is("scopes " + asked + " of " + has + ", high bits", x.check(1, asked - 16), want);
                due.is("scopes " + asked + " of " + has + ", bit 4", x.check(1, asked + 16), want);
            }
        }
        due.is("scope 16 has none of the four", checkedClaims(Bench.claims(0, 1, 60, 1, 16)),
            GrantServer.SCOPE);
        due.is("scope 21 has two of the four", checkedClaims(Bench.claims(0, 1, 60, 1, 21)), 0);
    }

    private static void refusalsComeInOrder() {
        due.is("expired, dead, audience, scope", checkedClaims(Bench.claims(0, 2, 5, 9, 0)),
            GrantServer.EXPIRED);
        due.is("dead, audience, scope", checkedClaims(Bench.claims(0, 2, 60, 9, 0)), GrantServer.DEAD);
        due.is("audience, scope", checkedClaims(Bench.claims(0, 2, 60, 1, 0)), GrantServer.AUDIENCE);
        due.is("scope", checkedClaims(Bench.claims(0, 1, 60, 1, 0)), GrantServer.SCOPE);
        due.is("no claims, though expired", checkedClaims(Bench.claims(0, 2, 5, 9, 0) + "x"),
            GrantServer.CLAIMS);
        due.is("forged, no claims", checked("AAAA.AAAAAAAAAA"), GrantServer.FORGED);
        due.is("no form, forged", checked("AAAAA.AAAAAAAAAA"), GrantServer.FORM);
    }

    private static void subIsAsWritten() {
        int[] subs = {0, 1, 3, 4, 100, 999999999};
        for (int sub : subs) {
            due.is("sub " + sub, checkedClaims(Bench.claims(sub, 1, 60, 1, 5)), sub);
        }
    }
}
