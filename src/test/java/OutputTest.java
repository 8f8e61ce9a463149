/** Promises 9 and 10: letter and count. */
public final class OutputTest {
    public static void main(String[] args) {
        letters();
        counts();
        unknownCounts();
        Check.finish();
    }

    private static void letters() {
        byte[] text = Texts.of(0, 1, 127, 128, 254, 255);
        TextPress press = Texts.withInput(Form.begun().stored(1, text).of(text));
        Check.due("open", press.open(), 6);
        int[] want = {0, 1, 127, 128, 254, 255};
        for (int i = 0; i < want.length; i++) {
            Check.due("letter(" + i + ")", press.letter(i), want[i]);
        }
        for (int i : new int[] {-1, 6, 7, 64, Integer.MIN_VALUE, Integer.MAX_VALUE}) {
            Check.dueThrow("letter(" + i + ")", IndexOutOfBoundsException.class, () -> press.letter(i));
        }
        Check.due("count(1) behind letters", press.count(1), 6);
        TextPress none = Texts.withInput(Form.begun().fixed(1).end().of(new byte[0]));
        none.press();
        Check.due("open of a form of nothing", none.open(), 0);
        Check.dueThrow("letter(0) of nothing", IndexOutOfBoundsException.class, () -> none.letter(0));
    }

    private static void dueCounts(String what, TextPress press, int... want) {
        for (int k = 0; k < want.length; k++) {
            Check.due(what + ", count(" + k + ")", press.count(k), want[k]);
        }
    }

    private static void counts() {
        byte[] text = Texts.of("abcabc");
        int[] letters = new int[257];
        letters['a'] = 2;
        letters['b'] = 2;
        letters['c'] = 2;
        letters[256] = 2;
        byte[] form = Form.begun().stored(0, Texts.of("a")).told(0, letters, Form.NO_DISTANCE).letter('b').end()
                .fixed(0).letter('c').end().told(1, letters, Form.NO_DISTANCE).letters(Texts.of("abc")).end().of(text);
        int n = form.length;
        TextPress press = Texts.withInput(form);
        dueCounts("fed", press, n, 0, 0, 0, 0, 0, 0);
        press.open();
        dueCounts("opened", press, n, 6, 0, 0, 4, 2, 0);
        press.turn();
        dueCounts("turned", press, 6, 6, 0, 0, 4, 2, 0);
        int pressed = press.press();
        dueCounts("pressed", press, 6, pressed, 1, 3, 4, 2, 0);
        Check.dueThrow("open of a text", ArithmeticException.class, press::open);
        dueCounts("damaged", press, 6, pressed, 1, 3, 4, 2, 1);
        Check.dueThrow("open again", ArithmeticException.class, press::open);
        dueCounts("damaged twice", press, 6, pressed, 1, 3, 4, 2, 2);
        press.turn();
        press.open();
        dueCounts("opened again", press, pressed, 6, 1, 3, 1, 0, 2);
        press.change(pressed - 1, 1);
        Check.dueThrow("open with a wrong sum", ArithmeticException.class, press::open);
        dueCounts("damaged at the end", press, pressed, 6, 1, 3, 1, 0, 3);
    }

    private static void unknownCounts() {
        TextPress press = Texts.withInput(Texts.of("abc"));
        for (int what : new int[] {-1, 7, 8, Integer.MIN_VALUE, Integer.MAX_VALUE}) {
            Check.due("count(" + what + ")", press.count(what), -1);
        }
    }
}
