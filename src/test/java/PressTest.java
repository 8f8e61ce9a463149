import java.util.Random;
import java.util.zip.DataFormatException;
import java.util.zip.Inflater;

/** Promise 5: press, what DEFLATED is, and counts 2 and 3 of promise 10. */
public final class PressTest {
    public static void main(String[] args) throws DataFormatException {
        knownForms();
        edges();
        countsAtTheEdges();
        pairsBitByBit();
        Random random = new Random(3);
        for (int k = 0; k < 400; k++) {
            against("random " + k, Texts.random(random, random.nextInt(400), 1 + random.nextInt(1 + k % 256)));
        }
        for (int letters : new int[] {1, 2, 3, 16, 256}) {
            against("long, letters " + letters, Texts.random(random, 8000, letters));
        }
        against("65536 of two letters", Texts.uneven(random, Texts.LONGEST));
        runs(random);
        distances(random);
        state();
        Check.finish();
    }

    private static void knownForms() {
        TextPress press = new TextPress();
        Check.due("press of nothing", press.press(), 8);
        Check.due("nothing, pressed", Texts.output(press), Texts.of(120, 1, 3, 0, 0, 0, 0, 1));
        press = Texts.withInput(Texts.of("a"));
        Check.due("press of a", press.press(), 9);
        Check.due("a, pressed", Texts.output(press), Texts.of(120, 1, 0x4b, 4, 0, 0, 0x62, 0, 0x62));
        press = Texts.withInput(Texts.of("aaaaaaaaaa"));
        press.press();
        Check.due("ten a, pressed", Texts.output(press), Texts.of(120, 1, 0x4b, 0x84, 3, 0, 0x14, 0xe1, 3, 0xcb));
        Check.due("ten a, PAIRS", press.count(2), 1);
        Check.due("ten a, LITERALS", press.count(3), 1);
    }

    private static void dueCounts(String what, byte[] text, int pairs, int literals) {
        TextPress press = Texts.withInput(text);
        press.press();
        Check.due(what + ", PAIRS", press.count(2), pairs);
        Check.due(what + ", LITERALS", press.count(3), literals);
    }

    /** Lengths are 3 to 258, places 1 to 32768 before. */
    private static void countsAtTheEdges() {
        dueCounts("nothing", new byte[0], 0, 0);
        dueCounts("one", Texts.same('a', 1), 0, 1);
        dueCounts("two alike", Texts.same('a', 2), 0, 2);
        dueCounts("three alike", Texts.same('a', 3), 0, 3);
        dueCounts("four alike", Texts.same('a', 4), 1, 1);
        dueCounts("two BYTES again", Texts.of("abxab"), 0, 5);
        dueCounts("three BYTES again", Texts.of("abcxabc"), 1, 4);
        dueCounts("258 alike", Texts.same('a', 258), 1, 1);
        dueCounts("259 alike", Texts.same('a', 259), 1, 1);
        dueCounts("260 alike: one is left", Texts.same('a', 260), 1, 2);
        dueCounts("261 alike: two are left", Texts.same('a', 261), 1, 3);
        dueCounts("262 alike: three are left", Texts.same('a', 262), 2, 1);
        // 65535 behind the first one: 254 PAIRS of 258 and one of 3.
        dueCounts("65536 alike", Texts.same('a', Texts.LONGEST), 255, 1);
        byte[] far = Texts.joined(Texts.of("abc"), Texts.same(0, 32765), Texts.of("abc"));
        // 32764 zeros behind the first one: 126 PAIRS of 258 and one of 256.
        dueCounts("abc 32768 places before", far, 128, 4);
        byte[] farther = Texts.joined(Texts.of("abc"), Texts.same(0, 32766), Texts.of("abc"));
        dueCounts("abc 32769 places before", farther, 127, 7);
    }

    private static void duePressed(String what, byte[] text, Form want) {
        TextPress press = Texts.withInput(text);
        press.press();
        Check.due(what, Texts.output(press), want.end().of(text));
    }

    private static void pairsBitByBit() {
        duePressed("258 is told by length code 285", Texts.same('a', 259),
                Form.begun().fixed(1).letter('a').letter(285).distance(0));
        duePressed("257 is told by length code 284", Texts.same('a', 258),
                Form.begun().fixed(1).letter('a').letter(284).bits(30, 5).distance(0));
        duePressed("an overlap of distance 2", Texts.of("ababa"),
                Form.begun().fixed(1).letters(Texts.of("ab")).letter(257).distance(1));
        duePressed("the least distance", Texts.of("abc1abc2abc"),
                Form.begun().fixed(1).letters(Texts.of("abc1")).letter(257).distance(3)
                        .letter('2').letter(257).distance(3));
        duePressed("a greater length goes before a lesser distance", Texts.of("abcd1abc2abcd"),
                Form.begun().fixed(1).letters(Texts.of("abcd1")).letter(257).distance(4).bits(0, 1)
                        .letter('2').letter(258).distance(6).bits(0, 2));
        duePressed("a distance of 4 with its places between", Texts.of("abcdabcdabcdabcd"),
                Form.begun().fixed(1).letters(Texts.of("abcd")).letter(265).bits(1, 1).distance(3));
        byte[] zeros = Texts.same(0, 32765);
        Form far = Form.begun().fixed(1).letters(Texts.of("abc")).letter(0);
        for (int k = 0; k < 126; k++) {
            far.letter(285).distance(0);
        }
        far.letter(284).bits(256 - 227, 5).distance(0).letter(257).distance(29).bits(8191, 13);
        duePressed("a distance of 32768", Texts.joined(Texts.of("abc"), zeros, Texts.of("abc")), far);
    }

    private static void edges() throws DataFormatException {
        against("two alike", Texts.of("abab"));
        against("three alike", Texts.of("abcabc"));
        against("three at the end", Texts.of("abcxabc"));
        against("two left at the end", Texts.of("abcxab"));
        against("the nearer of two", Texts.of("abc1abc2abc"));
        against("the longer, farther one", Texts.of("abcd1abce2abcd"));
        against("the nearest of the longest", Texts.of("abcd1abcd2abce3abcd"));
        against("overlap of two", Texts.of("abababababab"));
        against("greedy, not lazy", Texts.of("bcdefg abc abcdefg"));
        for (int n = 255; n <= 264; n++) {
            against(n + " alike", Texts.same(200, n));
            against(n + " twice", Texts.joined(noPairs(n), Texts.of(1), noPairs(n)));
        }
        against("516 to 520 alike", Texts.same(0, 519));
        for (int n = Texts.LONGEST - 4; n <= Texts.LONGEST; n++) {
            against(n + " alike", Texts.same(0, n));
        }
        byte[] all = new byte[256];
        for (int i = 0; i < 256; i++) {
            all[i] = (byte) i;
        }
        against("all BYTES", all);
        against("all BYTES twice", Texts.joined(all, all));
    }

    /** A row without three BYTES that stand twice, for up to some 300 places. */
    private static byte[] noPairs(int n) {
        byte[] text = new byte[n];
        for (int i = 0; i < n; i++) {
            text[i] = (byte) (i % 2 == 0 ? i / 2 + 30 : 29 - i / 512);
        }
        return text;
    }

    /** Every length of a PAIR, at distances that the bytes before it set. */
    private static void runs(Random random) throws DataFormatException {
        for (int n = 3; n <= 258; n++) {
            byte[] piece = Texts.random(random, n, 256);
            against("a PAIR of " + n, Texts.joined(piece, Texts.of(0), piece, Texts.of(1)));
        }
    }

    /** "abc" again after so many places, with but zeros between: up to 32768 it is a PAIR. */
    private static void distances(Random random) throws DataFormatException {
        for (int code = 0; code < 30; code++) {
            for (int distance = PlainPress.distanceBase(code) - 1; distance <= PlainPress.distanceBase(code) + 1; distance++) {
                if (distance >= 3) {
                    apart(distance);
                }
            }
        }
        for (int distance = 32766; distance <= 32771; distance++) {
            apart(distance);
        }
        for (int k = 0; k < 60; k++) {
            apart(3 + random.nextInt(32766));
        }
    }

    private static void apart(int distance) throws DataFormatException {
        byte[] between = Texts.same(0, distance - 3);
        against("apart by " + distance, Texts.joined(Texts.of("abc"), between, Texts.of("abc"), Texts.of("x")));
    }

    private static void against(String what, byte[] text) throws DataFormatException {
        TextPress press = Texts.withInput(text);
        PlainPress want = new PlainPress(text);
        Check.due(what + ", press", press.press(), want.form.length);
        Check.due(what + ", count(1)", press.count(1), want.form.length);
        Check.due(what + ", PAIRS", press.count(2), want.pairs());
        Check.due(what + ", LITERALS", press.count(3), want.literals());
        Check.due(what + ", count(0)", press.count(0), text.length);
        byte[] form = Texts.output(press);
        Check.due(what, form, want.form);
        Inflater inflater = new Inflater();
        inflater.setInput(form);
        byte[] back = new byte[text.length];
        int n = inflater.inflate(back);
        Check.due(what + ", inflated length", n, text.length);
        Check.due(what + ", inflated", back, text);
        inflater.end();
    }

    /** Earlier presses of other TEXTS must leave no trace. */
    private static void state() {
        byte[] longer = Texts.random(new Random(9), 3000, 4);
        TextPress press = Texts.withInput(longer);
        press.press();
        press.end(2990);
        press.press();
        TextPress fresh = Texts.withInput(java.util.Arrays.copyOf(longer, 10));
        fresh.press();
        Check.due("PAIRS of the latest press", press.count(2), fresh.count(2));
        Check.due("LITERALS of the latest press", press.count(3), fresh.count(3));
        Check.due("pressed again, shorter", Texts.output(press), Texts.output(fresh));
        long hash = press.hash(0);
        press.press();
        Check.due("INPUT stays", press.hash(0), hash);
        press.end(10);
        press.press();
        Check.due("PAIRS of an empty press", press.count(2), 0);
        Check.due("LITERALS of an empty press", press.count(3), 0);
    }
}
