import java.util.Random;

/** "An object is used for at most 512 calls": the 512th answers as the first does. */
public final class CallsTest {
    private static final int CALLS = 512;

    public static void main(String[] args) {
        feeds();
        damagedOpens();
        presses();
        turnsAndOpens();
        changes();
        Check.finish();
    }

    private static void feeds() {
        TextPress press = new TextPress();
        Model model = new Model();
        Random random = new Random(1);
        for (int k = 1; k < CALLS; k++) {
            int a = random.nextInt();
            int b = random.nextInt();
            Check.due("feed " + k, press.feed(a, b, a, b, k), model.feed(a, b, a, b, k));
        }
        Check.due("hash behind 511 feeds", press.hash(1), model.hash(1));
    }

    private static void damagedOpens() {
        TextPress press = new TextPress();
        for (int k = 1; k < CALLS; k++) {
            Check.dueThrow("open " + k, ArithmeticException.class, press::open);
        }
        Check.due("count(6) behind 511 opens", press.count(6), CALLS - 1);
    }

    /** The form of a form of a form: each longer than the one before, until it is cut. */
    private static void presses() {
        TextPress press = new TextPress();
        Model model = new Model();
        for (int k = 0; k + 2 < CALLS; k += 3) {
            Check.due("press, call " + k, press.press(), model.press());
            int length = model.turn();
            Check.due("turn, call " + k, press.turn(), length);
            int n = length > 2000 ? 1990 : 0;
            Check.due("end, call " + k, press.end(n), model.end(n));
        }
        Check.due("PAIRS at the last", press.count(2), model.count(2));
    }

    private static void turnsAndOpens() {
        byte[] text = Texts.of("abcabcabcabc");
        TextPress press = Texts.withInput(text);
        for (int k = 0; k < CALLS - 8; k += 4) {
            press.press();
            press.turn();
            Check.due("open " + k, press.open(), text.length);
            press.turn();
        }
        Check.due("opened at the last", Texts.output(press), text);
    }

    private static void changes() {
        TextPress press = new TextPress();
        press.feed(0, 0, 0, 0, 0);
        for (int k = 0; k < CALLS - 2; k++) {
            press.change(k % 20, k % 256);
        }
        Model model = new Model();
        model.feed(0, 0, 0, 0, 0);
        for (int k = 0; k < CALLS - 2; k++) {
            model.change(k % 20, k % 256);
        }
        Check.due("hash behind 510 changes", press.hash(0), model.hash(0));
    }
}
