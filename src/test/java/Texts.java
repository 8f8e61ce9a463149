import java.io.ByteArrayOutputStream;
import java.nio.ByteBuffer;
import java.security.MessageDigest;
import java.security.NoSuchAlgorithmException;
import java.util.Arrays;
import java.util.Random;
import java.util.zip.Deflater;

/** Texts, and ways to bring them into a TextPress and out of it. */
final class Texts {
    static final int LONGEST = 65536;
    /** An object serves 512 calls; some must be left for what is tested. */
    private static final int MOST_FED = 440 * 20;

    private Texts() {
    }

    static byte[] of(String letters) {
        byte[] text = new byte[letters.length()];
        for (int i = 0; i < text.length; i++) {
            text[i] = (byte) letters.charAt(i);
        }
        return text;
    }

    static byte[] of(int... numbers) {
        byte[] text = new byte[numbers.length];
        for (int i = 0; i < text.length; i++) {
            text[i] = (byte) numbers[i];
        }
        return text;
    }

    static byte[] same(int x, int n) {
        byte[] text = new byte[n];
        Arrays.fill(text, (byte) x);
        return text;
    }

    static byte[] random(Random random, int n, int letters) {
        byte[] text = new byte[n];
        for (int i = 0; i < n; i++) {
            text[i] = (byte) (256 - letters + random.nextInt(letters));
        }
        return text;
    }

    /** Two letters, one of them seldom: long, without much order, and yet brought in by few calls. */
    static byte[] uneven(Random random, int n) {
        byte[] text = new byte[n];
        for (int i = 0; i < n; i++) {
            text[i] = (byte) (random.nextInt(10) == 0 ? 200 : 65);
        }
        return text;
    }

    static byte[] joined(byte[]... parts) {
        ByteArrayOutputStream all = new ByteArrayOutputStream();
        for (byte[] part : parts) {
            all.write(part, 0, part.length);
        }
        return all.toByteArray();
    }

    /** What hash(part) must answer for this INPUT, by the JDK. */
    static long sha1(byte[] text, int part) {
        try {
            ByteBuffer hash = ByteBuffer.wrap(MessageDigest.getInstance("SHA-1").digest(text));
            return part == 2 ? hash.getInt(16) & 0xFFFFFFFFL : hash.getLong(8 * part);
        } catch (NoSuchAlgorithmException e) {
            throw new UnsupportedOperationException(e);
        }
    }

    static byte[] deflated(byte[] text, int level, int strategy) {
        Deflater deflater = new Deflater(level);
        deflater.setStrategy(strategy);
        deflater.setInput(text);
        deflater.finish();
        byte[] room = new byte[2 * text.length + 100];
        int n = deflater.deflate(room);
        deflater.end();
        return Arrays.copyOf(room, n);
    }

    /** A new object with this INPUT; one too long to be fed goes by its deflated form. */
    static TextPress withInput(byte[] text) {
        TextPress press = new TextPress();
        if (text.length <= MOST_FED) {
            feedAll(press, text);
            return press;
        }
        byte[] form = deflated(text, 9, Deflater.DEFAULT_STRATEGY);
        if (form.length > MOST_FED) {
            throw new IllegalArgumentException("a test's text cannot be brought in");
        }
        feedAll(press, form);
        press.open();
        press.turn();
        return press;
    }

    /** LITERALS of nine bits make each form longer than its TEXT, until one is too long for INPUT. */
    static TextPress withTooLongOutput() {
        TextPress press = withInput(random(new Random(5), 8000, 112));
        for (int k = 0; k < 60 && press.press() <= LONGEST; k++) {
            press.turn();
        }
        return press;
    }

    static void feedAll(TextPress press, byte[] text) {
        byte[] padded = Arrays.copyOf(text, (text.length + 19) / 20 * 20);
        for (int i = 0; i < padded.length; i += 20) {
            press.feed(number(padded, i), number(padded, i + 4), number(padded, i + 8),
                    number(padded, i + 12), number(padded, i + 16));
        }
        press.end(padded.length - text.length);
    }

    /** OUTPUT, by more calls of letter than an object promises to serve: for its last use. */
    static byte[] output(TextPress press) {
        byte[] text = new byte[press.count(1)];
        for (int i = 0; i < text.length; i++) {
            text[i] = (byte) press.letter(i);
        }
        return text;
    }

    private static int number(byte[] text, int i) {
        return (text[i] & 255) << 24 | (text[i + 1] & 255) << 16 | (text[i + 2] & 255) << 8
                | text[i + 3] & 255;
    }
}
