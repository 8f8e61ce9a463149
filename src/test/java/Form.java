import java.io.ByteArrayOutputStream;
import java.util.zip.Adler32;

/** Builds forms bit by bit, right ones and wrong ones. */
final class Form {
    /** How a told block's lengths are told here: 0 .. 15 by 5 bits each, 16 by 2, 17 and 18 by 3. */
    static final int[] SIZES = {5, 5, 5, 5, 5, 5, 5, 5, 5, 5, 5, 5, 5, 5, 5, 5, 2, 3, 3};
    static final int[] SIZE_ORDER = {16, 17, 18, 0, 8, 7, 9, 6, 10, 5, 11, 4, 12, 3, 13, 2, 14, 1, 15};
    static final int[] NO_DISTANCE = {0};

    private final ByteArrayOutputStream bytes = new ByteArrayOutputStream();
    private int held;
    private int heldBits;
    private int[] letterSizes;
    private int[] distanceSizes;

    /** The head that is usual. */
    static Form begun() {
        return new Form().bits(120, 8).bits(1, 8);
    }

    Form bits(int value, int n) {
        for (int k = 0; k < n; k++) {
            held |= (value >>> k & 1) << heldBits;
            heldBits++;
            if (heldBits == 8) {
                bytes.write(held);
                held = 0;
                heldBits = 0;
            }
        }
        return this;
    }

    /** Fills the BYTE with bits of this sort. */
    Form filled(int bit) {
        while (heldBits != 0) {
            bits(bit, 1);
        }
        return this;
    }

    Form raw(byte[] more) {
        for (byte b : more) {
            bits(b, 8);
        }
        return this;
    }

    Form stored(int last, byte[] text) {
        bits(last, 1).bits(0, 2).filled(0);
        return bits(text.length, 16).bits(~text.length, 16).raw(text);
    }

    Form fixed(int last) {
        letterSizes = new int[288];
        for (int k = 0; k < 288; k++) {
            letterSizes[k] = k < 144 ? 8 : k < 256 ? 9 : k < 280 ? 7 : 8;
        }
        distanceSizes = new int[32];
        java.util.Arrays.fill(distanceSizes, 5);
        return bits(last, 1).bits(1, 2);
    }

    /** A told block whose lengths are told one by one. */
    Form told(int last, int[] letters, int[] distances) {
        toldHead(last, letters.length, distances.length);
        for (int size : letters) {
            size(size);
        }
        for (int size : distances) {
            size(size);
        }
        return codes(letters, distances);
    }

    /** The numbers of codes and the code of the lengths; the lengths are to follow. */
    Form toldHead(int last, int letters, int distances) {
        bits(last, 1).bits(2, 2).bits(letters - 257, 5).bits(distances - 1, 5);
        return sizesCode(SIZES);
    }

    Form sizesCode(int[] sizes) {
        bits(15, 4);
        for (int symbol : SIZE_ORDER) {
            bits(sizes[symbol], 3);
        }
        return this;
    }

    /** Length 0 .. 15, or 16 .. 18, whose extra bits are to follow. */
    Form size(int symbol) {
        return symbol(SIZES, symbol);
    }

    /** The codes to write symbols with from here on. */
    Form codes(int[] letters, int[] distances) {
        letterSizes = letters;
        distanceSizes = distances;
        return this;
    }

    Form codesOf(Form other) {
        return codes(other.letterSizes, other.distanceSizes);
    }

    Form letter(int symbol) {
        return symbol(letterSizes, symbol);
    }

    Form distance(int symbol) {
        return symbol(distanceSizes, symbol);
    }

    Form letters(byte[] text) {
        for (byte b : text) {
            letter(b & 255);
        }
        return this;
    }

    Form end() {
        return letter(256);
    }

    /** Canonical codes, RFC 1951, 3.2.2. */
    private Form symbol(int[] sizes, int symbol) {
        int code = 0;
        for (int size = 1; size < sizes[symbol]; size++) {
            for (int other : sizes) {
                code += other == size ? 1 : 0;
            }
            code <<= 1;
        }
        for (int k = 0; k < symbol; k++) {
            code += sizes[k] == sizes[symbol] ? 1 : 0;
        }
        for (int k = sizes[symbol] - 1; k >= 0; k--) {
            bits(code >>> k, 1);
        }
        return this;
    }

    byte[] bare() {
        filled(0);
        return bytes.toByteArray();
    }

    /** Ends the form with the Adler-32 of its TEXT. */
    byte[] of(byte[] text) {
        filled(0);
        Adler32 adler = new Adler32();
        adler.update(text);
        int sum = (int) adler.getValue();
        return bits(sum >>> 24, 8).bits(sum >>> 16, 8).bits(sum >>> 8, 8).bits(sum, 8).bare();
    }
}
