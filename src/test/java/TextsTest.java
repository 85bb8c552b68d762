/** Promises 10 (key), 11 (alter), 12 (take), 13 (letter), 14 (challenge) and 15 (wrap). */
public final class TextsTest {
    private static final Due due = new Due("TextsTest");

    public static void main(String[] args) {
        keyTakesWritableCharacters();
        keyStopsAtTheMost();
        alterChangesOneCharacter();
        alterIsRefused();
        takeCopiesTheOutput();
        takeEmptiesTheInput();
        letterAnswersNoneOutside();
        challengeOfTexts();
        wrapOfEveryLength();
        wrapOfEveryCharacter();
        refusedWrapChangesNothing();
        wrapOfAnEmptyInput();
        knownTexts();
        due.end();
    }

    private static void keyTakesWritableCharacters() {
        int[] refused = {0, 1, 9, 10, 31, 127, 128, 255, 256, 256 + 65, 32767, 32768, 65535};
        GrantServer x = new GrantServer(1, 1, 1, 1);
        for (int code : refused) {
            due.no("key " + code, x.key((char) code));
            due.is("input after key " + code, x.letter(false, 0), GrantServer.NONE);
        }
        for (int code = 32; code <= 126; code++) {
            due.yes("key " + code, x.key((char) code));
            due.is("the character", x.letter(false, code - 32), code);
        }
        due.no("key 127 behind others", x.key((char) 127));
        due.is("characters", Bench.text(x, false).length(), 95);
        due.is("the output stays", x.letter(true, 0), GrantServer.NONE);
    }

    private static void keyStopsAtTheMost() {
        GrantServer x = new GrantServer(1, 1, 1, 1);
        for (int i = 0; i < 120; i++) {
            due.yes("key " + i, x.key((char) (40 + i % 50)));
        }
        due.no("key 120", x.key('z'));
        for (int i = 0; i < 120; i++) {
            due.is("letter " + i, x.letter(false, i), 40 + i % 50);
        }
        due.is("letter 120", x.letter(false, 120), GrantServer.NONE);
        due.yes("the last can be altered", x.alter(119, 'Z'));
        due.is("the last", x.letter(false, 119), 'Z');
        due.no("none behind it can", x.alter(120, 'Z'));
        x.take(false);
        due.yes("key in the emptied input", x.key('z'));
    }

    private static void alterChangesOneCharacter() {
        GrantServer x = new GrantServer(1, 1, 1, 1);
        Bench.type(x, "abcd");
        due.yes("first", x.alter(0, ' '));
        due.is("input", Bench.text(x, false), " bcd");
        due.yes("last", x.alter(3, '~'));
        due.is("input", Bench.text(x, false), " bc~");
        due.yes("to what it is", x.alter(1, 'b'));
        due.is("input", Bench.text(x, false), " bc~");
    }

    private static void alterIsRefused() {
        GrantServer x = new GrantServer(1, 1, 1, 1);
        due.no("of an empty input", x.alter(0, 'a'));
        Bench.type(x, "abcd");
        int[] places = {-1, 4, 119, 120, 121, Integer.MIN_VALUE, Integer.MAX_VALUE};
        for (int place : places) {
            due.no("place " + place, x.alter(place, 'x'));
        }
        int[] codes = {0, 31, 127, 255, 256 + 65, 65535};
        for (int code : codes) {
            due.no("code " + code, x.alter(1, (char) code));
        }
        due.is("input", Bench.text(x, false), "abcd");
        Bench.type(x, "ab");
        due.no("a place that was there", x.alter(2, 'x'));
    }

    private static void takeCopiesTheOutput() {
        GrantServer x = new GrantServer(1, 1, 1, 1);
        Bench.type(x, "abc");
        due.is("take of an empty output", x.take(true), 0);
        due.is("input", Bench.text(x, false), "");
        Bench.type(x, "abc");
        x.wrap();
        String wrapped = Bench.wrapped(1, "abc");
        due.is("take", x.take(true), wrapped.length());
        due.is("input", Bench.text(x, false), wrapped);
        due.is("the output stays", Bench.text(x, true), wrapped);
        x.alter(0, '!');
        x.key('?');
        due.is("the output is another text", Bench.text(x, true), wrapped);
        due.is("the input", Bench.text(x, false), "!" + wrapped.substring(1) + "?");
        due.is("take again", x.take(true), wrapped.length());
        due.is("the input again", Bench.text(x, false), wrapped);
    }

    private static void takeEmptiesTheInput() {
        GrantServer x = new GrantServer(1, 1, 1, 1);
        due.is("take of an empty input", x.take(false), 0);
        Bench.type(x, "abc");
        x.wrap();
        due.is("take", x.take(false), 0);
        due.is("input", Bench.text(x, false), "");
        due.is("the output stays", Bench.text(x, true), Bench.wrapped(1, "abc"));
    }

    private static void letterAnswersNoneOutside() {
        GrantServer x = new GrantServer(1, 1, 1, 1);
        Bench.type(x, "abc");
        x.wrap();
        int[] places = {-1, 120, 121, Integer.MIN_VALUE, Integer.MAX_VALUE};
        for (int place : places) {
            due.is("input " + place, x.letter(false, place), GrantServer.NONE);
            due.is("output " + place, x.letter(true, place), GrantServer.NONE);
        }
        due.is("input 2", x.letter(false, 2), 'c');
        due.is("input 3", x.letter(false, 3), GrantServer.NONE);
        due.is("output 3", x.letter(true, 3), 'j');
        due.is("output 4", x.letter(true, 4), '.');
        due.is("output 15", x.letter(true, 15), GrantServer.NONE);
    }

    private static void challengeOfTexts() {
        GrantServer x = new GrantServer(1, 1, 1, 1);
        due.is("of none", x.challenge(), 0);
        Bench.type(x, "ab");
        due.is("of ab", x.challenge(), 801724119);
        due.is("of ab again", x.challenge(), 801724119);
        String text = "";
        for (int i = 0; i < 120; i++) {
            text += (char) (126 - i * 7 % 95);
            Bench.type(x, text);
            due.is("of " + text, x.challenge(), Bench.challengeOf(text));
            x = new GrantServer(i, 1, 1, 1);
        }
        Bench.type(x, text);
        x.wrap();
        due.is("the input's, not the output's", x.challenge(), Bench.challengeOf(text));
    }

    private static void wrapOfEveryLength() {
        String text = "";
        for (int length = 0; length <= 120; length++) {
            GrantServer x = new GrantServer(-length, 1, 1, 1);
            Bench.type(x, text);
            String wrapped = Bench.wrapped(-length, text);
            if (length <= 81) {
                due.is("wrap of " + length, x.wrap(), wrapped.length());
                due.is("output", Bench.text(x, true), wrapped);
            } else {
                due.is("wrap of " + length, x.wrap(), GrantServer.NONE);
                due.is("output", Bench.text(x, true), "");
            }
            due.is("the input stays", Bench.text(x, false), text);
            text += (char) (32 + length * 31 % 95);
        }
    }

    private static void wrapOfEveryCharacter() {
        for (char c = 32; c <= 126; c++) {
            GrantServer x = new GrantServer(c, 1, 1, 1);
            String text = "" + c + (char) (158 - c) + c + c;
            Bench.type(x, text);
            x.wrap();
            due.is("wrap of " + text, Bench.text(x, true), Bench.wrapped(c, text));
        }
    }

    private static void refusedWrapChangesNothing() {
        GrantServer x = new GrantServer(1, 1, 1, 1);
        Bench.type(x, "abc");
        x.wrap();
        String before = Bench.text(x, true);
        Bench.type(x, "m".repeat(82));
        due.is("wrap of 82", x.wrap(), GrantServer.NONE);
        due.is("the output stays", Bench.text(x, true), before);
        due.is("the input stays", Bench.text(x, false), "m".repeat(82));
    }

    private static void wrapOfAnEmptyInput() {
        GrantServer x = Bench.exchanged(1);
        due.is("wrap of none", x.wrap(), 11);
        due.is("a point and ten signs", Bench.text(x, true), "." + Bench.seal(Bench.KEY, ""));
        due.is("take", x.take(true), 11);
    }

    /** Worked out by hand from the document: with key 0 the seal of no signs is all zeros. */
    private static void knownTexts() {
        GrantServer x = new GrantServer(0, 1, 1, 1);
        x.wrap();
        due.is("nothing, key 0", Bench.text(x, true), ".AAAAAAAAAA");
        GrantServer y = new GrantServer(63, 1, 1, 1);
        y.wrap();
        due.is("nothing, key 63", Bench.text(y, true), ".AAAAAAAAA_");
        GrantServer z = new GrantServer(-2, 1, 1, 1);
        z.wrap();
        due.is("nothing, key -2", Bench.text(z, true), "._________-");
        Bench.type(z, "?>~");
        z.wrap();
        due.is("signs of ?>~", Bench.text(z, true).substring(0, 5), "Pz5-.");
        Bench.type(z, "a");
        z.wrap();
        due.is("signs of a", Bench.text(z, true).substring(0, 3), "YQ.");
        Bench.type(z, "ab");
        z.wrap();
        due.is("signs of ab", Bench.text(z, true).substring(0, 4), "YWI.");
    }
}
