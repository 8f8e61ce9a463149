/**
 * "What is refused changes nothing": every refused call in many states, with all that can be seen
 * of the object before and behind it. Only how often READING was DAMAGED is counted.
 */
public final class RefusedTest {
    private static final byte[] TEXT = Texts.of("to be or not to be, to be or not");
    private static final int DAMAGED = 6;

    private interface Maker {
        TextPress make();
    }

    public static void main(String[] args) {
        everyRefusal("new", TextPress::new);
        everyRefusal("fed", () -> Texts.withInput(TEXT));
        everyRefusal("fed and pressed", RefusedTest::pressed);
        everyRefusal("opened", RefusedTest::opened);
        everyRefusal("opened, then damaged", RefusedTest::openedThenDamaged);
        everyRefusal("opened and turned", RefusedTest::turned);
        everyRefusal("full", () -> Texts.withInput(Texts.same(9, Texts.LONGEST)));
        fullInput();
        tooLongOutput();
        Check.finish();
    }

    private static TextPress pressed() {
        TextPress press = Texts.withInput(TEXT);
        press.press();
        return press;
    }

    /** Two blocks, one of them told, are counted; INPUT has a right form with a wrong BYTE behind it. */
    private static TextPress opened() {
        TextPress press = pressed();
        press.end(TEXT.length);
        int[] letters = new int[257];
        letters['x'] = 1;
        letters[256] = 1;
        Form form = Form.begun().told(0, letters, Form.NO_DISTANCE).letter('x').end().fixed(1).letter('y').end();
        Texts.feedAll(press, form.of(Texts.of("xy")));
        press.open();
        press.feed(0, 0, 0, 0, 0);
        press.end(19);
        return press;
    }

    private static TextPress openedThenDamaged() {
        TextPress press = opened();
        try {
            press.open();
        } catch (ArithmeticException e) {
            return press;
        }
        throw new IllegalStateException("a form with a BYTE behind it was read");
    }

    private static TextPress turned() {
        TextPress press = opened();
        press.turn();
        return press;
    }

    private static void everyRefusal(String state, Maker maker) {
        int input = maker.make().count(0);
        int output = maker.make().count(1);
        Class<IllegalArgumentException> bad = IllegalArgumentException.class;
        for (int n : new int[] {-1, input + 1, Integer.MIN_VALUE, Integer.MAX_VALUE}) {
            refusal(state + ", end(" + n + ")", maker.make(), bad, press -> press.end(n));
            refusal(state + ", change(" + n + ", 1)", maker.make(), bad, press -> changed(press, n, 1));
        }
        refusal(state + ", change behind the last", maker.make(), bad, press -> changed(press, input, 1));
        for (int x : new int[] {-1, 256, Integer.MIN_VALUE, Integer.MAX_VALUE}) {
            refusal(state + ", change(0, " + x + ")", maker.make(), bad, press -> changed(press, 0, x));
        }
        for (int part : new int[] {-1, 3, Integer.MIN_VALUE, Integer.MAX_VALUE}) {
            refusal(state + ", hash(" + part + ")", maker.make(), bad, press -> press.hash(part));
        }
        for (int i : new int[] {-1, output, output + 1, Integer.MIN_VALUE, Integer.MAX_VALUE}) {
            refusal(state + ", letter(" + i + ")", maker.make(), IndexOutOfBoundsException.class,
                    press -> press.letter(i));
        }
        refusal(state + ", open", maker.make(), ArithmeticException.class, TextPress::open);
    }

    private static long changed(TextPress press, int i, int x) {
        press.change(i, x);
        return 0;
    }

    private static void fullInput() {
        for (int n = Texts.LONGEST - 19; n <= Texts.LONGEST; n++) {
            TextPress press = Texts.withInput(Texts.same(n, n));
            refusal("feed at " + n, press, IllegalStateException.class, p -> p.feed(1, 2, 3, 4, 5));
        }
    }

    private static void tooLongOutput() {
        TextPress press = Texts.withTooLongOutput();
        refusal("turn", press, IllegalStateException.class, TextPress::turn);
        refusal("turn again", press, IllegalStateException.class, TextPress::turn);
    }

    private interface Refused {
        long run(TextPress press);
    }

    private static void refusal(String what, TextPress press, Class<? extends RuntimeException> want, Refused call) {
        int[] counts = counts(press);
        long[] hash = hash(press);
        byte[] output = Texts.output(press);
        Check.dueThrow(what, want, () -> call.run(press));
        if (want == ArithmeticException.class) {
            counts[DAMAGED]++;
        }
        same(what, press, counts, hash);
        Check.due(what + ", OUTPUT", Texts.output(press), output);
    }

    private static int[] counts(TextPress press) {
        int[] counts = new int[7];
        for (int k = 0; k < 7; k++) {
            counts[k] = press.count(k);
        }
        return counts;
    }

    private static long[] hash(TextPress press) {
        return new long[] {press.hash(0), press.hash(1), press.hash(2)};
    }

    private static void same(String what, TextPress press, int[] counts, long[] hash) {
        for (int k = 0; k < 7; k++) {
            Check.due(what + ", count(" + k + ")", press.count(k), counts[k]);
        }
        for (int part = 0; part < 3; part++) {
            Check.due(what + ", hash(" + part + ")", press.hash(part), hash[part]);
        }
    }
}
