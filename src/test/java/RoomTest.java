import com.sun.management.ThreadMXBean;
import java.lang.management.ManagementFactory;
import java.util.Random;

/** All calls of a run live in one room: what an object makes is bounded, however often it is called. */
public final class RoomTest {
    private static final ThreadMXBean BEAN = (ThreadMXBean) ManagementFactory.getThreadMXBean();

    public static void main(String[] args) {
        byte[] form = Texts.deflated(Texts.uneven(new Random(2), Texts.LONGEST), 9, 0);
        dearest(form);
        long before = BEAN.getCurrentThreadAllocatedBytes();
        TextPress press = new TextPress();
        long made = BEAN.getCurrentThreadAllocatedBytes() - before;
        Check.due("a new object, count(0)", press.count(0), 0);
        atMost("a new object", made, 40000);
        atMost("a short run", shortRun(), 45000);
        // Three rows of bytes and one of ints, each with all the rooms that it had before.
        atMost("the dearest run", dearest(form), 1000000);
        Check.finish();
    }

    private static void atMost(String what, long got, long most) {
        Check.due(what + " takes " + got + " bytes; more than " + most, got > most ? 1 : 0, 0);
    }

    /** A long TEXT opened, turned and pressed; then a hundred more calls of what is dear. */
    private static long dearest(byte[] form) {
        long before = BEAN.getCurrentThreadAllocatedBytes();
        TextPress press = new TextPress();
        Texts.feedAll(press, form);
        press.open();
        press.turn();
        round(press, 0);
        round(press, 1);
        long once = BEAN.getCurrentThreadAllocatedBytes();
        for (int k = 0; k < 18; k++) {
            round(press, k % 3);
        }
        long last = BEAN.getCurrentThreadAllocatedBytes();
        atMost("calls made again", last - once, 1000);
        return last - before;
    }

    /** A run may make many objects: a short TEXT must not cost the room of a long one. */
    private static long shortRun() {
        long before = BEAN.getCurrentThreadAllocatedBytes();
        TextPress press = new TextPress();
        for (int k = 0; k < 20; k++) {
            press.feed(k, 2 * k, 3 * k, 4 * k, 5 * k);
        }
        for (int k = 0; k < 20; k++) {
            press.press();
            press.hash(0);
            press.turn();
            press.open();
            press.turn();
        }
        return BEAN.getCurrentThreadAllocatedBytes() - before;
    }

    private static void round(TextPress press, int part) {
        press.press();
        press.hash(part);
        press.turn();
        press.open();
        press.turn();
    }
}
