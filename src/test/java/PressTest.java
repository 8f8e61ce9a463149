import java.util.Random;
import java.util.zip.DataFormatException;
import java.util.zip.Inflater;

/** Promise 5: press, what DEFLATED is, and counts 2 and 3 of promise 10. */
public final class PressTest {
    private static final int[] LENGTH_BASE = new int[29];
    private static final int[] LENGTH_EXTRA = new int[29];
    private static final int[] DISTANCE_BASE = new int[30];
    private static final int[] DISTANCE_EXTRA = new int[30];
    private static int pairs;
    private static int literals;

    public static void main(String[] args) throws DataFormatException {
        makeTables();
        knownForms();
        edges();
        Random random = new Random(3);
        for (int k = 0; k < 400; k++) {
            against("random " + k, Texts.random(random, random.nextInt(400), 1 + random.nextInt(1 + k % 256)));
        }
        for (int letters : new int[] {1, 2, 3, 16, 256}) {
            against("long, letters " + letters, Texts.random(random, 8000, letters));
        }
        against("65536 of two letters", Texts.uneven(random, Texts.LONGEST));
        runs(random);
        distances(random);
        state();
        Check.finish();
    }

    /** RFC 1951, 3.2.5: the bases follow from the extra bits. */
    private static void makeTables() {
        int length = 3;
        for (int k = 0; k < 28; k++) {
            LENGTH_BASE[k] = length;
            LENGTH_EXTRA[k] = k < 8 ? 0 : k / 4 - 1;
            length += 1 << LENGTH_EXTRA[k];
        }
        LENGTH_BASE[28] = 258;
        int distance = 1;
        for (int k = 0; k < 30; k++) {
            DISTANCE_BASE[k] = distance;
            DISTANCE_EXTRA[k] = k < 4 ? 0 : k / 2 - 1;
            distance += 1 << DISTANCE_EXTRA[k];
        }
    }

    private static void knownForms() {
        TextPress press = new TextPress();
        Check.due("press of nothing", press.press(), 8);
        Check.due("nothing, pressed", Texts.output(press), Texts.of(120, 1, 3, 0, 0, 0, 0, 1));
        press = Texts.withInput(Texts.of("a"));
        Check.due("press of a", press.press(), 9);
        Check.due("a, pressed", Texts.output(press), Texts.of(120, 1, 0x4b, 4, 0, 0, 0x62, 0, 0x62));
        press = Texts.withInput(Texts.of("aaaaaaaaaa"));
        press.press();
        Check.due("ten a, pressed", Texts.output(press), Texts.of(120, 1, 0x4b, 0x84, 3, 0, 0x14, 0xe1, 3, 0xcb));
        Check.due("ten a, PAIRS", press.count(2), 1);
        Check.due("ten a, LITERALS", press.count(3), 1);
    }

    private static void edges() throws DataFormatException {
        against("two alike", Texts.of("abab"));
        against("three alike", Texts.of("abcabc"));
        against("three at the end", Texts.of("abcxabc"));
        against("two left at the end", Texts.of("abcxab"));
        against("the nearer of two", Texts.of("abc1abc2abc"));
        against("the longer, farther one", Texts.of("abcd1abce2abcd"));
        against("the nearest of the longest", Texts.of("abcd1abcd2abce3abcd"));
        against("overlap of two", Texts.of("abababababab"));
        against("greedy, not lazy", Texts.of("bcdefg abc abcdefg"));
        for (int n = 255; n <= 264; n++) {
            against(n + " alike", Texts.same(200, n));
            against(n + " twice", Texts.joined(noPairs(n), Texts.of(1), noPairs(n)));
        }
        against("516 to 520 alike", Texts.same(0, 519));
        for (int n = Texts.LONGEST - 4; n <= Texts.LONGEST; n++) {
            against(n + " alike", Texts.same(0, n));
        }
        byte[] all = new byte[256];
        for (int i = 0; i < 256; i++) {
            all[i] = (byte) i;
        }
        against("all BYTES", all);
        against("all BYTES twice", Texts.joined(all, all));
    }

    /** A row without three BYTES that stand twice, for up to some 300 places. */
    private static byte[] noPairs(int n) {
        byte[] text = new byte[n];
        for (int i = 0; i < n; i++) {
            text[i] = (byte) (i % 2 == 0 ? i / 2 + 30 : 29 - i / 512);
        }
        return text;
    }

    /** Every length of a PAIR, at distances that the bytes before it set. */
    private static void runs(Random random) throws DataFormatException {
        for (int n = 3; n <= 258; n++) {
            byte[] piece = Texts.random(random, n, 256);
            against("a PAIR of " + n, Texts.joined(piece, Texts.of(0), piece, Texts.of(1)));
        }
    }

    /** "abc" again after so many places, with but zeros between: up to 32768 it is a PAIR. */
    private static void distances(Random random) throws DataFormatException {
        for (int code = 0; code < 30; code++) {
            for (int distance = DISTANCE_BASE[code] - 1; distance <= DISTANCE_BASE[code] + 1; distance++) {
                if (distance >= 3) {
                    apart(distance);
                }
            }
        }
        for (int distance = 32766; distance <= 32771; distance++) {
            apart(distance);
        }
        for (int k = 0; k < 60; k++) {
            apart(3 + random.nextInt(32766));
        }
        TextPress press = Texts.withInput(Texts.joined(Texts.of("abc"), Texts.same(0, 32765), Texts.of("abc")));
        press.press();
        Check.due("LITERALS with abc 32768 places before", press.count(3), 4);
        press = Texts.withInput(Texts.joined(Texts.of("abc"), Texts.same(0, 32766), Texts.of("abc")));
        press.press();
        Check.due("LITERALS with abc 32769 places before", press.count(3), 7);
    }

    private static void apart(int distance) throws DataFormatException {
        byte[] between = Texts.same(0, distance - 3);
        against("apart by " + distance, Texts.joined(Texts.of("abc"), between, Texts.of("abc"), Texts.of("x")));
    }

    private static void against(String what, byte[] text) throws DataFormatException {
        TextPress press = Texts.withInput(text);
        byte[] want = wanted(text);
        Check.due(what + ", press", press.press(), want.length);
        Check.due(what + ", count(1)", press.count(1), want.length);
        Check.due(what + ", PAIRS", press.count(2), pairs);
        Check.due(what + ", LITERALS", press.count(3), literals);
        Check.due(what + ", count(0)", press.count(0), text.length);
        byte[] form = Texts.output(press);
        Check.due(what, form, want);
        Inflater inflater = new Inflater();
        inflater.setInput(form);
        byte[] back = new byte[text.length];
        int n = inflater.inflate(back);
        Check.due(what + ", inflated length", n, text.length);
        Check.due(what + ", inflated", back, text);
        inflater.end();
    }

    /** The form by the document's words: each place before is looked at, the nearest first. */
    private static byte[] wanted(byte[] text) {
        Form form = Form.begun().fixed(1);
        pairs = 0;
        literals = 0;
        int place = 0;
        while (place < text.length) {
            int length = 0;
            int distance = 0;
            int most = Math.min(258, text.length - place);
            for (int d = 1; d <= Math.min(place, 32768) && length < most; d++) {
                int same = 0;
                while (same < most && text[place + same] == text[place - d + same]) {
                    same++;
                }
                if (same > length) {
                    length = same;
                    distance = d;
                }
            }
            if (length < 3) {
                form.letter(text[place] & 255);
                literals++;
                place++;
            } else {
                putPair(form, length, distance);
                pairs++;
                place += length;
            }
        }
        return form.end().of(text);
    }

    private static void putPair(Form form, int length, int distance) {
        int code = 28;
        while (LENGTH_BASE[code] > length) {
            code--;
        }
        form.letter(257 + code).bits(length - LENGTH_BASE[code], LENGTH_EXTRA[code]);
        code = 29;
        while (DISTANCE_BASE[code] > distance) {
            code--;
        }
        form.distance(code).bits(distance - DISTANCE_BASE[code], DISTANCE_EXTRA[code]);
    }

    /** Earlier presses of other TEXTS must leave no trace. */
    private static void state() {
        byte[] longer = Texts.random(new Random(9), 3000, 4);
        TextPress press = Texts.withInput(longer);
        press.press();
        press.end(2990);
        press.press();
        TextPress fresh = Texts.withInput(java.util.Arrays.copyOf(longer, 10));
        fresh.press();
        Check.due("PAIRS of the latest press", press.count(2), fresh.count(2));
        Check.due("LITERALS of the latest press", press.count(3), fresh.count(3));
        Check.due("pressed again, shorter", Texts.output(press), Texts.output(fresh));
        long hash = press.hash(0);
        press.press();
        Check.due("INPUT stays", press.hash(0), hash);
        press.end(10);
        press.press();
        Check.due("PAIRS of an empty press", press.count(2), 0);
        Check.due("LITERALS of an empty press", press.count(3), 0);
    }
}
