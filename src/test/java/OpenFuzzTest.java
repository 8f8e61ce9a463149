import java.util.Arrays;
import java.util.Random;
import java.util.zip.Adler32;
import java.util.zip.DataFormatException;
import java.util.zip.Deflater;
import java.util.zip.Inflater;

/**
 * Promise 6 against the JDK's inflater and the plain reader, on forms of its deflater that were
 * changed at random. The sum is set right behind each change, so that the change itself is judged.
 */
public final class OpenFuzzTest {
    private static final int[] STRATEGIES = {
        Deflater.DEFAULT_STRATEGY, Deflater.FILTERED, Deflater.HUFFMAN_ONLY
    };
    private static int opened;
    private static int refused;

    public static void main(String[] args) {
        Random random = new Random(11);
        for (int k = 0; k < 3000; k++) {
            byte[] text = Texts.random(random, random.nextInt(600), 1 + random.nextInt(256));
            byte[] form = flushed(random, text);
            whole(form, text);
            for (int n = 0; n < 6; n++) {
                byte[] body = Arrays.copyOfRange(form, 2, form.length - 4);
                for (int flips = random.nextInt(3); flips >= 0; flips--) {
                    body[random.nextInt(Math.min(body.length, 80))] ^= 1 << random.nextInt(8);
                }
                judge(body);
            }
        }
        for (int k = 0; k < 3000; k++) {
            judge(toldAtRandom(random));
        }
        Check.due("hardly any was opened", opened > 3000 ? 0 : 1, 0);
        Check.due("hardly any was refused", refused > 3000 ? 0 : 1, 0);
        Check.finish();
    }

    /** Flushes within the text make several blocks. */
    private static byte[] flushed(Random random, byte[] text) {
        Deflater deflater = new Deflater(random.nextInt(10));
        deflater.setStrategy(STRATEGIES[random.nextInt(3)]);
        byte[] room = new byte[2 * text.length + 200];
        int half = random.nextInt(text.length + 1);
        deflater.setInput(text, 0, half);
        int n = 0;
        // The first call may do no more than take the strategy over.
        for (int k = 0; k < 3; k++) {
            n += deflater.deflate(room, n, room.length - n, Deflater.SYNC_FLUSH);
        }
        deflater.setInput(text, half, text.length - half);
        deflater.finish();
        n += deflater.deflate(room, n, room.length - n);
        deflater.end();
        return Arrays.copyOf(room, n);
    }

    private static void whole(byte[] form, byte[] text) {
        TextPress press = Texts.withInput(form);
        Check.due("open of a deflater's form", press.open(), text.length);
        Check.due("a deflater's form, opened", Texts.output(press), text);
    }

    /** A told block with a code that is nearly always full, and random bits behind it. */
    private static byte[] toldAtRandom(Random random) {
        int[] letters = new int[257 + random.nextInt(30)];
        int[] distances = new int[1 + random.nextInt(30)];
        split(random, letters, 2 + random.nextInt(40), 256);
        split(random, distances, random.nextInt(Math.min(8, distances.length + 1)), -1);
        if (random.nextInt(8) == 0) {
            int[] changed = random.nextBoolean() ? letters : distances;
            changed[random.nextInt(changed.length)] = random.nextInt(16);
        }
        byte[] behind = new byte[200];
        random.nextBytes(behind);
        return new Form().told(random.nextInt(2), letters, distances).raw(behind).bare();
    }

    /** Splits codes into two longer ones until there are so many; one of them goes to a place that must be. */
    private static void split(Random random, int[] sizes, int codes, int must) {
        int[] leaves = new int[Math.max(1, codes)];
        leaves[0] = codes <= 1 ? codes : 0;
        for (int n = 1; n < codes; n++) {
            int leaf = random.nextInt(n);
            while (leaves[leaf] >= 15) {
                leaf = (leaf + 1) % n;
            }
            leaves[leaf]++;
            leaves[n] = leaves[leaf];
        }
        int from = 0;
        if (must >= 0) {
            sizes[must] = leaves[0];
            from = 1;
        }
        for (int k = from; k < codes; k++) {
            int place = random.nextInt(sizes.length);
            while (sizes[place] != 0) {
                place = (place + 1) % sizes.length;
            }
            sizes[place] = leaves[k];
        }
    }

    private static void judge(byte[] body) {
        Inflater inflater = new Inflater(true);
        // The inflater wants a BYTE behind a bare body.
        inflater.setInput(Arrays.copyOf(body, body.length + 1));
        byte[] text = new byte[Texts.LONGEST + 1];
        int n = 0;
        boolean right;
        try {
            n = inflater.inflate(text);
            right = inflater.finished() && n <= Texts.LONGEST && inflater.getBytesRead() <= body.length;
        } catch (DataFormatException e) {
            right = false;
        }
        int used = right ? (int) inflater.getBytesRead() : body.length;
        inflater.end();
        TextPress press = Texts.withInput(framed(Arrays.copyOf(body, used), Arrays.copyOf(text, n)));
        if (right) {
            opened++;
            Check.due("open", answer(press), n);
            Check.due("opened", Texts.output(press), Arrays.copyOf(text, n));
        } else {
            refused++;
            Check.due("open of a damaged form", answer(press), -1);
        }
        judgePlainly(framed(Arrays.copyOf(body, used), Arrays.copyOf(text, n)), press);
    }

    /** The plain reader counts blocks too, which the inflater doesn't tell. */
    private static void judgePlainly(byte[] form, TextPress press) {
        int blocks = 0;
        int told = 0;
        int damaged = 0;
        try {
            PlainReader reader = new PlainReader(form);
            blocks = reader.blocks();
            told = reader.told();
        } catch (PlainReader.Damaged e) {
            damaged = 1;
        }
        Check.due("blocks", press.count(4), blocks);
        Check.due("told blocks", press.count(5), told);
        Check.due("damaged", press.count(6), damaged);
    }

    private static int answer(TextPress press) {
        try {
            return press.open();
        } catch (ArithmeticException e) {
            return -1;
        }
    }

    private static byte[] framed(byte[] body, byte[] text) {
        Adler32 adler = new Adler32();
        adler.update(text);
        int sum = (int) adler.getValue();
        return Texts.joined(Texts.of(120, 1), body, Texts.of(sum >>> 24, sum >>> 16, sum >>> 8, sum));
    }
}
