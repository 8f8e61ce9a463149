/** Promises 1 to 4 and 7: a new object, feed, end, change, turn; what is refused changes nothing. */
public final class InputTest {
    private static final Class<IllegalStateException> STATE = IllegalStateException.class;
    private static final Class<IllegalArgumentException> BAD = IllegalArgumentException.class;

    public static void main(String[] args) {
        newObject();
        feed();
        feedAtTheLimit();
        feedNearTheLimit();
        fullInput();
        end();
        change();
        turn();
        turnOfWhatIsTooLong();
        Check.finish();
    }

    /** INPUT cannot be read, but its hash can. */
    private static void dueInput(String what, TextPress press, byte[] want) {
        for (int part = 0; part < 3; part++) {
            Check.due(what + ", hash(" + part + ")", press.hash(part), Texts.sha1(want, part));
        }
        Check.due(what + ", count(0)", press.count(0), want.length);
    }

    private static void newObject() {
        TextPress press = new TextPress();
        for (int what = 0; what <= 6; what++) {
            Check.due("a new object's count(" + what + ")", press.count(what), 0);
        }
        Check.dueThrow("letter(0) of a new object", IndexOutOfBoundsException.class, () -> press.letter(0));
        Check.due("turn of a new object", press.turn(), 0);
        Check.due("end(0) of a new object", press.end(0), 0);
        Check.dueThrow("open of a new object", ArithmeticException.class, press::open);
        TextPress other = new TextPress();
        other.feed(1, 2, 3, 4, 5);
        Check.due("an object beside a fed one, count(0)", press.count(0), 0);
    }

    private static void feed() {
        TextPress press = new TextPress();
        Check.due("feed", press.feed(0x00010203, 0x04050607, 0x08090A0B, 0x7F808182, 0xFCFDFEFF), 20);
        // As these BYTES never stand twice, each comes out as a LITERAL: OUTPUT tells them.
        byte[] want = Texts.of(0, 1, 2, 3, 4, 5, 6, 7, 8, 9, 10, 11, 127, 128, 129, 130, 252, 253, 254, 255);
        press.press();
        Check.due("fed BYTES, pressed", Texts.output(press), Form.begun().fixed(1).letters(want).end().of(want));
        Check.due("feed again", press.feed(-1, 0, 0, 0, 0), 40);
        Check.due("count(0)", press.count(0), 40);
        Check.due("feed a third time", press.feed(Integer.MIN_VALUE, Integer.MAX_VALUE, 1, -1, 0), 60);
        byte[] more = Texts.of(255, 255, 255, 255, 0, 0, 0, 0, 0, 0, 0, 0, 0, 0, 0, 0, 0, 0, 0, 0,
                128, 0, 0, 0, 127, 255, 255, 255, 0, 0, 0, 1, 255, 255, 255, 255, 0, 0, 0, 0);
        TextPress twice = twiceOver(Texts.joined(want, more));
        for (int part = 0; part < 3; part++) {
            Check.due("sixty fed BYTES, hash(" + part + ")", press.hash(part), twice.hash(part));
        }
    }

    /** The same BYTES as INPUT by another way than feed: stored, opened and turned. */
    private static TextPress twiceOver(byte[] text) {
        TextPress press = Texts.withInput(Form.begun().stored(1, text).of(text));
        press.open();
        Check.due("stored and opened", Texts.output(press), text);
        press.turn();
        return press;
    }

    private static TextPress full(int n) {
        return Texts.withInput(Texts.same(7, n));
    }

    private static void feedAtTheLimit() {
        TextPress press = full(Texts.LONGEST - 20);
        Check.due("feed up to 65536 BYTES", press.feed(1, 2, 3, 4, 5), Texts.LONGEST);
        long before = press.hash(0);
        Check.dueThrow("feed at 65536 BYTES", STATE, () -> press.feed(1, 2, 3, 4, 5));
        Check.due("count(0) behind a refused feed", press.count(0), Texts.LONGEST);
        Check.due("hash(0) behind a refused feed", press.hash(0), before);
        Check.due("end behind a refused feed", press.end(19), Texts.LONGEST - 19);
        Check.dueThrow("feed at 65517 BYTES", STATE, () -> press.feed(1, 2, 3, 4, 5));
        Check.due("end(1)", press.end(1), Texts.LONGEST - 20);
        Check.due("feed at 65516 BYTES", press.feed(1, 2, 3, 4, 5), Texts.LONGEST);
        Check.due("hash(0) of the same TEXT", press.hash(0), before);
    }

    /** The last place of a full INPUT, and the one behind it; all of it goes at once. */
    private static void fullInput() {
        TextPress press = full(Texts.LONGEST);
        byte[] want = Texts.same(7, Texts.LONGEST);
        press.change(Texts.LONGEST - 1, 128);
        want[Texts.LONGEST - 1] ^= (byte) 128;
        dueInput("change of BYTE 65535", press, want);
        Check.dueThrow("change of BYTE 65536", BAD, () -> {
            press.change(Texts.LONGEST, 128);
            return 0;
        });
        Check.dueThrow("end(65537)", BAD, () -> press.end(Texts.LONGEST + 1));
        dueInput("a full INPUT behind refused calls", press, want);
        Check.due("end(65536)", press.end(Texts.LONGEST), 0);
        dueInput("a full INPUT that went", press, new byte[0]);
        Check.due("feed anew", press.feed(0x01020304, 0, 0, 0, 5), 20);
        dueInput("fed anew", press, Texts.of(1, 2, 3, 4, 0, 0, 0, 0, 0, 0, 0, 0, 0, 0, 0, 0, 0, 0, 0, 5));
    }

    /** Room for twenty BYTES, to the very last one, or for nineteen. */
    private static void feedNearTheLimit() {
        for (int n = Texts.LONGEST - 23; n <= Texts.LONGEST; n++) {
            TextPress press = full(n);
            if (n <= Texts.LONGEST - 20) {
                Check.due("feed at " + n, press.feed(-1, -1, -1, -1, -1), n + 20);
                dueInput("fed at " + n, press, Texts.joined(Texts.same(7, n), Texts.same(255, 20)));
            } else {
                Check.dueThrow("feed at " + n, STATE, () -> press.feed(-1, -1, -1, -1, -1));
                dueInput("not fed at " + n, press, Texts.same(7, n));
            }
        }
    }

    private static void end() {
        TextPress press = Texts.withInput(Texts.of("the quick brown fox jumps"));
        Check.due("end(6)", press.end(6), 19);
        dueInput("behind end(6)", press, Texts.of("the quick brown fox"));
        Check.due("end(0)", press.end(0), 19);
        Check.dueThrow("end(20)", BAD, () -> press.end(20));
        Check.dueThrow("end(-1)", BAD, () -> press.end(-1));
        Check.dueThrow("end(MIN)", BAD, () -> press.end(Integer.MIN_VALUE));
        Check.dueThrow("end(MAX)", BAD, () -> press.end(Integer.MAX_VALUE));
        dueInput("behind refused ends", press, Texts.of("the quick brown fox"));
        press.feed(0x41414141, 0x41414141, 0x41414141, 0x41414141, 0x41414141);
        dueInput("fed behind an end", press, Texts.of("the quick brown foxAAAAAAAAAAAAAAAAAAAA"));
        Check.due("end(39)", press.end(39), 0);
        Check.dueThrow("end(1) of nothing", BAD, () -> press.end(1));
        Check.due("end(0) of nothing", press.end(0), 0);
    }

    private static void change() {
        TextPress press = Texts.withInput(Texts.of("abcdef"));
        press.change(0, 0);
        dueInput("change by 0", press, Texts.of("abcdef"));
        press.change(0, 'a' ^ 'x');
        press.change(5, 255);
        dueInput("change of first and last", press, Texts.joined(Texts.of("xbcde"), Texts.of('f' ^ 255)));
        press.change(5, 255);
        dueInput("change back", press, Texts.of("xbcdef"));
        for (int x = 0; x < 256; x++) {
            press.change(2, x);
            dueInput("change by " + x, press, Texts.joined(Texts.of("xb"), Texts.of('c' ^ x), Texts.of("def")));
            press.change(2, x);
        }
        int[][] bad = {{-1, 1}, {6, 1}, {Integer.MAX_VALUE, 1}, {Integer.MIN_VALUE, 1}, {0, -1}, {0, 256},
            {0, Integer.MIN_VALUE}, {0, Integer.MAX_VALUE}, {6, 256}};
        for (int[] pair : bad) {
            Check.dueThrow("change(" + pair[0] + ", " + pair[1] + ")", BAD, () -> {
                press.change(pair[0], pair[1]);
                return 0;
            });
        }
        dueInput("behind refused changes", press, Texts.of("xbcdef"));
        Check.due("count(1) behind changes", press.count(1), 0);
        TextPress none = new TextPress();
        Check.dueThrow("change of nothing", BAD, () -> {
            none.change(0, 0);
            return 0;
        });
        press.end(1);
        Check.dueThrow("change of a BYTE that went", BAD, () -> {
            press.change(5, 1);
            return 0;
        });
    }

    private static void turn() {
        byte[] text = Texts.of("to be or not to be, that is the question");
        TextPress press = Texts.withInput(text);
        int n = press.press();
        byte[] form = Texts.output(press);
        Check.due("turn", press.turn(), n);
        Check.due("count(0) behind turn", press.count(0), n);
        Check.due("count(1) behind turn", press.count(1), n);
        dueInput("turned", press, form);
        press.change(0, 255);
        Check.due("OUTPUT behind turn and change", Texts.output(press), form);
        press.change(0, 255);
        press.feed(0, 0, 0, 0, 0);
        Check.due("OUTPUT behind turn and feed", Texts.output(press), form);
        press.end(20);
        Check.due("open behind turn", press.open(), text.length);
        Check.due("turn of what was opened", press.turn(), text.length);
        dueInput("turned, opened and turned", press, text);
        TextPress none = Texts.withInput(text);
        Check.due("turn of an empty OUTPUT", none.turn(), 0);
        dueInput("turn of an empty OUTPUT", none, new byte[0]);
    }

    private static void turnOfWhatIsTooLong() {
        TextPress press = Texts.withTooLongOutput();
        int output = press.count(1);
        Check.due("a form is too long", output > Texts.LONGEST ? 1 : 0, 1);
        Check.dueThrow("turn of what is too long", STATE, press::turn);
        Check.due("the first letter", press.letter(0), 120);
        Check.due("letter 65536", press.letter(Texts.LONGEST) >= 0 ? 1 : 0, 1);
        Check.due("the last letter", press.letter(output - 1) >= 0 ? 1 : 0, 1);
        Check.dueThrow("the letter behind it", IndexOutOfBoundsException.class, () -> press.letter(output));
        // A LITERAL has 8 or 9 bits: one BYTE less makes the form shorter by one or two.
        press.end((output - Texts.LONGEST) * 8 / 9 - 20);
        for (int k = 0; k < 300 && press.press() > Texts.LONGEST + 1; k++) {
            press.end(1);
        }
        Check.due("a form of 65537 BYTES", press.count(1), Texts.LONGEST + 1);
        Check.dueThrow("turn of 65537 BYTES", STATE, press::turn);
        press.end(1);
        Check.due("a form of 65536 BYTES", press.press(), Texts.LONGEST);
        byte[] form = Texts.output(press);
        Check.due("turn of 65536 BYTES", press.turn(), Texts.LONGEST);
        dueInput("a form of 65536 BYTES, turned", press, form);
        Check.dueThrow("feed behind it", STATE, () -> press.feed(1, 2, 3, 4, 5));
        Check.due("OUTPUT behind it", Texts.output(press), form);
    }
}
