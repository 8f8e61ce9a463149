import java.io.ByteArrayOutputStream;
import java.util.HashMap;
import java.util.Map;
import java.util.zip.Adler32;

/**
 * READING by the document's words, in another manner than the program's: codes are texts of 0 and
 * 1, looked up in a map. Where the form is DAMAGED the constructor throws.
 */
final class PlainReader {
    static final class Damaged extends Exception {
        private static final long serialVersionUID = 1;

        Damaged(String why) {
            super(why);
        }
    }

    final byte[] text;
    private final byte[] form;
    private final ByteArrayOutputStream made = new ByteArrayOutputStream();
    private int bitPlace;
    private int blocks;
    private int told;

    PlainReader(byte[] form) throws Damaged {
        this.form = form;
        readHead();
        boolean last = false;
        while (!last) {
            last = bits(1) == 1;
            readBlock(bits(2));
            blocks++;
        }
        toByte();
        text = made.toByteArray();
        Adler32 adler = new Adler32();
        adler.update(text);
        long sum = 0;
        for (int k = 0; k < 4; k++) {
            sum = sum * 256 + bits(8);
        }
        need(sum == adler.getValue(), "the sum");
        need(bitPlace == 8 * form.length, "more behind the sum");
    }

    int blocks() {
        return blocks;
    }

    int told() {
        return told;
    }

    private static void need(boolean right, String what) throws Damaged {
        if (!right) {
            throw new Damaged(what);
        }
    }

    private int bits(int n) throws Damaged {
        int value = 0;
        for (int k = 0; k < n; k++) {
            need(bitPlace < 8 * form.length, "too short");
            value += (form[bitPlace / 8] >> bitPlace % 8 & 1) << k;
            bitPlace++;
        }
        return value;
    }

    private void toByte() {
        while (bitPlace % 8 != 0) {
            bitPlace++;
        }
    }

    private void readHead() throws Damaged {
        int first = bits(8);
        int second = bits(8);
        need(first % 16 == 8, "another method");
        need(first / 16 <= 7, "the window's size");
        need(second / 32 % 2 == 0, "a dictionary");
        need((first * 256 + second) % 31 == 0, "the head's check");
    }

    private void readBlock(int sort) throws Damaged {
        need(sort != 3, "sort 3");
        if (sort == 0) {
            readStored();
            return;
        }
        int[] letters = new int[288];
        int[] distances = new int[32];
        if (sort == 1) {
            for (int k = 0; k < 288; k++) {
                letters[k] = k < 144 ? 8 : k < 256 ? 9 : k < 280 ? 7 : 8;
            }
            java.util.Arrays.fill(distances, 5);
        } else {
            readTold(letters, distances);
            told++;
        }
        readSymbols(codes(letters), codes(distances));
    }

    private void readStored() throws Damaged {
        toByte();
        int n = bits(16);
        need(bits(16) == 65535 - n, "the stored length's check");
        for (int k = 0; k < n; k++) {
            put(bits(8));
        }
    }

    private void put(int x) throws Damaged {
        made.write(x);
        need(made.size() <= 65536, "too long");
    }

    private void readTold(int[] letters, int[] distances) throws Damaged {
        int letterCodes = bits(5) + 257;
        int distanceCodes = bits(5) + 1;
        int sizeCodes = bits(4) + 4;
        need(letterCodes <= 286 && distanceCodes <= 30, "too many codes");
        int[] sizes = new int[19];
        for (int k = 0; k < sizeCodes; k++) {
            sizes[Form.SIZE_ORDER[k]] = bits(3);
        }
        need(filled(sizes) == 32768, "the lengths' code");
        Map<String, Integer> sizeCode = codes(sizes);
        int[] all = new int[letterCodes + distanceCodes];
        int at = 0;
        while (at < all.length) {
            int symbol = symbol(sizeCode);
            int times = symbol < 16 ? 1 : symbol == 16 ? 3 + bits(2) : symbol == 17 ? 3 + bits(3) : 11 + bits(7);
            need(symbol != 16 || at > 0, "none to repeat");
            need(at + times <= all.length, "a repeat goes beyond");
            int size = symbol < 16 ? symbol : symbol == 16 ? all[at - 1] : 0;
            for (int k = 0; k < times; k++) {
                all[at++] = size;
            }
        }
        System.arraycopy(all, 0, letters, 0, letterCodes);
        System.arraycopy(all, letterCodes, distances, 0, distanceCodes);
        need(letters[256] > 0, "no end");
        need(filled(letters) == 32768, "the letters' code");
        boolean scant = codes(distances).isEmpty() || codes(distances).size() == 1 && filled(distances) == 16384;
        need(filled(distances) == 32768 || scant, "the distances' code");
    }

    /** How many of the 32768 rows of 15 bits begin with a code. */
    private static int filled(int[] sizes) {
        int sum = 0;
        for (int size : sizes) {
            sum += size == 0 ? 0 : 1 << 15 - size;
        }
        return sum;
    }

    private static Map<String, Integer> codes(int[] sizes) {
        Map<String, Integer> codes = new HashMap<>();
        int code = 0;
        for (int size = 1; size <= 15; size++) {
            for (int symbol = 0; symbol < sizes.length; symbol++) {
                if (sizes[symbol] == size) {
                    String bits = Integer.toBinaryString(1 << size | code);
                    codes.put(bits.substring(1), symbol);
                    code++;
                }
            }
            code *= 2;
        }
        return codes;
    }

    private int symbol(Map<String, Integer> codes) throws Damaged {
        StringBuilder seen = new StringBuilder();
        while (seen.length() < 15) {
            seen.append(bits(1));
            Integer symbol = codes.get(seen.toString());
            if (symbol != null) {
                return symbol;
            }
        }
        throw new Damaged("no code");
    }

    private void readSymbols(Map<String, Integer> letters, Map<String, Integer> distances) throws Damaged {
        for (int symbol = symbol(letters); symbol != 256; symbol = symbol(letters)) {
            if (symbol < 256) {
                put(symbol);
                continue;
            }
            need(symbol < 286, "no such length");
            int length = PlainPress.lengthBase(symbol - 257) + bits(PlainPress.lengthExtra(symbol - 257));
            int code = symbol(distances);
            need(code < 30, "no such distance");
            int distance = PlainPress.distanceBase(code) + bits(PlainPress.distanceExtra(code));
            need(distance <= made.size(), "too far");
            byte[] before = made.toByteArray();
            for (int k = 0; k < length; k++) {
                put(before[before.length - distance + k % distance] & 255);
            }
        }
    }
}
