/** Promises 9 and 10: letter and count. */
public final class OutputTest {
    public static void main(String[] args) {
        letters();
        lettersThatWent();
        lastLetters();
        counts();
        firstOnes();
        unknownCounts();
        Check.finish();
    }

    private static void letters() {
        byte[] text = Texts.of(0, 1, 127, 128, 254, 255);
        TextPress press = Texts.withInput(Form.begun().stored(1, text).of(text));
        Check.due("open", press.open(), 6);
        int[] want = {0, 1, 127, 128, 254, 255};
        for (int i = 0; i < want.length; i++) {
            Check.due("letter(" + i + ")", press.letter(i), want[i]);
        }
        for (int i : new int[] {-1, 6, 7, 64, Integer.MIN_VALUE, Integer.MAX_VALUE}) {
            Check.dueThrow("letter(" + i + ")", IndexOutOfBoundsException.class, () -> press.letter(i));
        }
        Check.due("count(1) behind letters", press.count(1), 6);
        TextPress none = Texts.withInput(Form.begun().fixed(1).end().of(new byte[0]));
        none.press();
        Check.due("open of a form of nothing", none.open(), 0);
        Check.dueThrow("letter(0) of nothing", IndexOutOfBoundsException.class, () -> none.letter(0));
    }

    /** OUTPUT becomes shorter, by press and by open: what stood behind isn't there any more. */
    private static void lettersThatWent() {
        byte[] text = Texts.random(new java.util.Random(4), 200, 256);
        TextPress press = Texts.withInput(text);
        int n = press.press();
        Check.due("letter " + (n - 1), press.letter(n - 1), new PlainPress(text).form[n - 1] & 255);
        press.end(199);
        int fewer = press.press();
        for (int i = fewer; i <= n; i++) {
            int place = i;
            Check.dueThrow("letter(" + i + ") that went by press", IndexOutOfBoundsException.class,
                    () -> press.letter(place));
        }
        press.turn();
        Check.due("open", press.open(), 1);
        Check.due("letter(0)", press.letter(0), text[0] & 255);
        for (int i = 1; i <= n; i++) {
            int place = i;
            Check.dueThrow("letter(" + i + ") that went by open", IndexOutOfBoundsException.class,
                    () -> press.letter(place));
        }
    }

    private static void lastLetters() {
        byte[] text = Texts.same(250, Texts.LONGEST);
        text[Texts.LONGEST - 1] = (byte) 251;
        TextPress press = Texts.withInput(Texts.deflated(text, 9, 0));
        Check.due("open of 65536", press.open(), Texts.LONGEST);
        Check.due("letter(65534)", press.letter(Texts.LONGEST - 2), 250);
        Check.due("letter(65535)", press.letter(Texts.LONGEST - 1), 251);
        Check.dueThrow("letter(65536)", IndexOutOfBoundsException.class, () -> press.letter(Texts.LONGEST));
    }

    private static void dueCounts(String what, TextPress press, int... want) {
        for (int k = 0; k < want.length; k++) {
            Check.due(what + ", count(" + k + ")", press.count(k), want[k]);
        }
    }

    private static void counts() {
        byte[] text = Texts.of("abcabc");
        int[] letters = new int[257];
        letters['a'] = 2;
        letters['b'] = 2;
        letters['c'] = 2;
        letters[256] = 2;
        byte[] form = Form.begun().stored(0, Texts.of("a")).told(0, letters, Form.NO_DISTANCE).letter('b').end()
                .fixed(0).letter('c').end().told(1, letters, Form.NO_DISTANCE).letters(Texts.of("abc")).end().of(text);
        int n = form.length;
        TextPress press = Texts.withInput(form);
        dueCounts("fed", press, n, 0, 0, 0, 0, 0, 0);
        press.open();
        dueCounts("opened", press, n, 6, 0, 0, 4, 2, 0);
        press.turn();
        dueCounts("turned", press, 6, 6, 0, 0, 4, 2, 0);
        int pressed = press.press();
        dueCounts("pressed", press, 6, pressed, 1, 3, 4, 2, 0);
        Check.dueThrow("open of a text", ArithmeticException.class, press::open);
        dueCounts("damaged", press, 6, pressed, 1, 3, 4, 2, 1);
        Check.dueThrow("open again", ArithmeticException.class, press::open);
        dueCounts("damaged twice", press, 6, pressed, 1, 3, 4, 2, 2);
        press.turn();
        press.open();
        dueCounts("opened again", press, pressed, 6, 1, 3, 1, 0, 2);
        press.change(pressed - 1, 1);
        Check.dueThrow("open with a wrong sum", ArithmeticException.class, press::open);
        dueCounts("damaged at the end", press, pressed, 6, 1, 3, 1, 0, 3);
    }

    /** "0 before the first one", of each sort, though the other one was. */
    private static void firstOnes() {
        TextPress press = Texts.withInput(Texts.of("abcabc"));
        Check.dueThrow("a damaged open first", ArithmeticException.class, press::open);
        dueCounts("damaged first", press, 6, 0, 0, 0, 0, 0, 1);
        int n = press.press();
        dueCounts("a press before the first good open", press, 6, n, 1, 3, 0, 0, 1);
        TextPress other = Texts.withInput(Form.begun().fixed(1).end().of(new byte[0]));
        other.open();
        dueCounts("an open before the first press", other, other.count(0), 0, 0, 0, 1, 0, 0);
    }

    private static void unknownCounts() {
        TextPress press = Texts.withInput(Texts.of("abc"));
        for (int what : new int[] {-1, 7, 8, Integer.MIN_VALUE, Integer.MAX_VALUE}) {
            Check.due("count(" + what + ")", press.count(what), -1);
        }
    }
}
