import java.util.Random;

/** Promise 8: hash. */
public final class HashTest {
    public static void main(String[] args) {
        knownHashes();
        Random random = new Random(8);
        for (int n = 0; n <= 200; n++) {
            against(Texts.random(random, n, 256));
        }
        against(Texts.same(255, Texts.LONGEST));
        against(Texts.uneven(random, Texts.LONGEST));
        against(Texts.uneven(random, Texts.LONGEST - 1));
        for (int n = 8000; n < 8070; n++) {
            against(Texts.random(random, n, 256));
        }
        parts();
        Check.finish();
    }

    private static void knownHashes() {
        TextPress press = new TextPress();
        Check.due("hash(0) of nothing", press.hash(0), 0xda39a3ee5e6b4b0dL);
        Check.due("hash(1) of nothing", press.hash(1), 0x3255bfef95601890L);
        Check.due("hash(2) of nothing", press.hash(2), 0xafd80709L);
        press = Texts.withInput(Texts.of("abc"));
        Check.due("hash(0) of abc", press.hash(0), 0xa9993e364706816aL);
        Check.due("hash(1) of abc", press.hash(1), 0xba3e25717850c26cL);
        Check.due("hash(2) of abc", press.hash(2), 0x9cd0d89dL);
    }

    private static void against(byte[] text) {
        TextPress press = Texts.withInput(text);
        for (int part : new int[] {2, 0, 1}) {
            Check.due("hash(" + part + "), length " + text.length, press.hash(part), Texts.sha1(text, part));
        }
    }

    private static void parts() {
        TextPress press = Texts.withInput(Texts.of("abc"));
        for (int part : new int[] {-1, 3, 4, Integer.MIN_VALUE, Integer.MAX_VALUE}) {
            Check.dueThrow("hash(" + part + ")", IllegalArgumentException.class, () -> press.hash(part));
        }
        press.press();
        Check.due("hash is of INPUT, not of OUTPUT", press.hash(0), 0xa9993e364706816aL);
        press.change(0, 1);
        press.change(0, 1);
        Check.due("hash behind changes there and back", press.hash(0), 0xa9993e364706816aL);
        Check.due("count(0) behind hash", press.count(0), 3);
    }
}
