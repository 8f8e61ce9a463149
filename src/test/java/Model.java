import java.nio.ByteBuffer;
import java.util.Arrays;

/** What the document says of an object, in the plainest way, by the Java library. */
final class Model {
    private byte[] input = new byte[0];
    private byte[] output = new byte[0];
    private final int[] counts = new int[7];

    int feed(int a, int b, int c, int d, int e) {
        if (input.length + 20 > 65536) {
            throw new IllegalStateException();
        }
        ByteBuffer all = ByteBuffer.allocate(input.length + 20);
        input = all.put(input).putInt(a).putInt(b).putInt(c).putInt(d).putInt(e).array();
        return input.length;
    }

    int end(int n) {
        if (n < 0 || n > input.length) {
            throw new IllegalArgumentException();
        }
        input = Arrays.copyOf(input, input.length - n);
        return input.length;
    }

    void change(int i, int x) {
        if (i < 0 || i >= input.length || x < 0 || x > 255) {
            throw new IllegalArgumentException();
        }
        input = input.clone();
        input[i] ^= x;
    }

    int press() {
        PlainPress press = new PlainPress(input);
        output = press.form;
        counts[2] = press.pairs();
        counts[3] = press.literals();
        return output.length;
    }

    int open() {
        try {
            PlainReader reader = new PlainReader(input);
            output = reader.text;
            counts[4] = reader.blocks();
            counts[5] = reader.told();
            return output.length;
        } catch (PlainReader.Damaged e) {
            counts[6]++;
            throw new ArithmeticException();
        }
    }

    int turn() {
        if (output.length > 65536) {
            throw new IllegalStateException();
        }
        input = output;
        return input.length;
    }

    long hash(int part) {
        if (part < 0 || part > 2) {
            throw new IllegalArgumentException();
        }
        return Texts.sha1(input, part);
    }

    int letter(int i) {
        if (i < 0 || i >= output.length) {
            throw new IndexOutOfBoundsException();
        }
        return output[i] & 255;
    }

    int count(int what) {
        counts[0] = input.length;
        counts[1] = output.length;
        return what < 0 || what > 6 ? -1 : counts[what];
    }
}
