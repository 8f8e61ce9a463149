import java.util.Arrays;

/**
 * A press for texts: hashes, and deflated forms, which are made in one way and read in every way.
 *
 * <p>All rows are kept and used again from call to call; they grow only when a text is longer than
 * every one before it, so that many calls need no more room than one.
 */
public final class TextPress {
    private static final int LONGEST_TEXT = 65536;
    /** Every BYTE a LITERAL of nine bits, and the frame of a DEFLATED form. */
    private static final int LONGEST_FORM = 73736;
    /** No bit of a form is read twice, so no loop over its blocks or symbols goes on for longer. */
    private static final int MOST_BITS = 8 * LONGEST_TEXT;

    private static final int FED_BYTES = 20;
    private static final int FIRST_BYTE = 120;
    private static final int SECOND_BYTE = 1;
    private static final int LAST_BLOCK = 1;
    private static final int STORED = 0;
    private static final int FIXED_CODES = 1;
    private static final int TOLD_CODES = 2;
    private static final int END_OF_BLOCK = 256;
    private static final int FIRST_LENGTH_SYMBOL = 257;
    private static final int SHORTEST_PAIR = 3;
    private static final int LONGEST_PAIR = 258;
    private static final int FARTHEST = 32768;

    private static final int[] LENGTH_BASE = {
        3, 4, 5, 6, 7, 8, 9, 10, 11, 13, 15, 17, 19, 23, 27, 31,
        35, 43, 51, 59, 67, 83, 99, 115, 131, 163, 195, 227, 258
    };
    private static final int[] LENGTH_EXTRA = {
        0, 0, 0, 0, 0, 0, 0, 0, 1, 1, 1, 1, 2, 2, 2, 2,
        3, 3, 3, 3, 4, 4, 4, 4, 5, 5, 5, 5, 0
    };
    private static final int[] DISTANCE_BASE = {
        1, 2, 3, 4, 5, 7, 9, 13, 17, 25, 33, 49, 65, 97, 129, 193,
        257, 385, 513, 769, 1025, 1537, 2049, 3073, 4097, 6145, 8193, 12289, 16385, 24577
    };
    private static final int[] DISTANCE_EXTRA = {
        0, 0, 0, 0, 1, 1, 2, 2, 3, 3, 4, 4, 5, 5, 6, 6,
        7, 7, 8, 8, 9, 9, 10, 10, 11, 11, 12, 12, 13, 13
    };
    private static final int[] SIZE_ORDER = {
        16, 17, 18, 0, 8, 7, 9, 6, 10, 5, 11, 4, 12, 3, 13, 2, 14, 1, 15
    };

    private final Row input;
    private Row output;
    /** A READING is written here, because OUTPUT must stay if the form proves DAMAGED at its end. */
    private Row spare;
    private final Sha1 sha1;
    private final Presser presser;
    private final Unpresser unpresser;
    private int blocks;
    private int toldBlocks;
    private int damagedReadings;

    public TextPress() {
        input = new Row();
        output = new Row();
        spare = new Row();
        sha1 = new Sha1();
        presser = new Presser();
        unpresser = new Unpresser();
    }

    public int feed(int a, int b, int c, int d, int e) throws IllegalStateException {
        if (input.length() + FED_BYTES > LONGEST_TEXT) {
            throw new IllegalStateException("INPUT would be too long");
        }
        input.addNumber(a);
        input.addNumber(b);
        input.addNumber(c);
        input.addNumber(d);
        input.addNumber(e);
        return input.length();
    }

    public int end(int n) throws IllegalArgumentException {
        if (n < 0 || n > input.length()) {
            throw new IllegalArgumentException("INPUT has not so many BYTES");
        }
        input.shorten(input.length() - n);
        return input.length();
    }

    public void change(int i, int x) throws IllegalArgumentException {
        if (!input.has(i) || x < 0 || x > 255) {
            throw new IllegalArgumentException("no such place in INPUT, or no BYTE");
        }
        input.put(i, input.at(i) ^ x);
    }

    public int press() {
        presser.run(input, output);
        return output.length();
    }

    public int open() throws ArithmeticException {
        if (!unpresser.read(input, spare)) {
            damagedReadings++;
            throw new ArithmeticException("INPUT is DAMAGED");
        }
        Row read = spare;
        spare = output;
        output = read;
        blocks = unpresser.blocks();
        toldBlocks = unpresser.toldBlocks();
        return output.length();
    }

    public int turn() throws IllegalStateException {
        if (output.length() > LONGEST_TEXT) {
            throw new IllegalStateException("INPUT would be too long");
        }
        input.copyFrom(output);
        return input.length();
    }

    public long hash(int part) throws IllegalArgumentException {
        if (part < 0 || part > 2) {
            throw new IllegalArgumentException("the parts are 0, 1 and 2");
        }
        sha1.run(input);
        if (part == 2) {
            return sha1.word(4);
        }
        return sha1.word(2 * part) << 32 | sha1.word(2 * part + 1);
    }

    public int letter(int i) throws IndexOutOfBoundsException {
        if (!output.has(i)) {
            throw new IndexOutOfBoundsException("no such place in OUTPUT");
        }
        return output.at(i);
    }

    public int count(int what) {
        switch (what) {
            case 0:
                return input.length();
            case 1:
                return output.length();
            case 2:
                return presser.pairs();
            case 3:
                return presser.literals();
            case 4:
                return blocks;
            case 5:
                return toldBlocks;
            case 6:
                return damagedReadings;
            default:
                return -1;
        }
    }

    /**
     * A TEXT in a row that grows. It grows fourfold: so all the room that it ever took is little
     * more than its last one, while a short TEXT never takes much.
     */
    private static final class Row {
        private byte[] bytes;
        private int length;

        Row() {
            bytes = new byte[64];
            length = 0;
        }

        int length() {
            return length;
        }

        /** For readers of many BYTES; places from length() on hold nothing of the TEXT. */
        byte[] bytes() {
            return bytes;
        }

        boolean has(int i) {
            return i >= 0 && i < length;
        }

        int at(int i) {
            return has(i) ? bytes[i] & 255 : 0;
        }

        void put(int i, int x) {
            if (has(i)) {
                bytes[i] = (byte) x;
            }
        }

        void add(int x) {
            makeRoom(length + 1);
            bytes[length] = (byte) x;
            length++;
        }

        void addNumber(int number) {
            add(number >>> 24);
            add(number >>> 16);
            add(number >>> 8);
            add(number);
        }

        void shorten(int n) {
            if (n >= 0 && n <= length) {
                length = n;
            }
        }

        void copyFrom(Row other) {
            makeRoom(other.length);
            System.arraycopy(other.bytes, 0, bytes, 0, other.length);
            length = other.length;
        }

        int adler32() {
            int a = 1;
            int b = 0;
            for (int k = 0; k < length; k++) {
                a = (a + (bytes[k] & 255)) % 65521;
                b = (b + a) % 65521;
            }
            return b << 16 | a;
        }

        private void makeRoom(int needed) {
            if (needed > bytes.length) {
                int more = Math.min(4 * bytes.length, LONGEST_FORM);
                bytes = Arrays.copyOf(bytes, Math.max(needed, more));
            }
        }
    }

    /** The SHA-1 of a TEXT, FIPS 180-4. */
    private static final class Sha1 {
        private static final int BLOCK = 64;

        private final int[] words;
        private final int[] state;

        Sha1() {
            words = new int[80];
            state = new int[5];
        }

        void run(Row text) {
            state[0] = 0x67452301;
            state[1] = 0xEFCDAB89;
            state[2] = 0x98BADCFE;
            state[3] = 0x10325476;
            state[4] = 0xC3D2E1F0;
            int padded = ((text.length() + 8) / BLOCK + 1) * BLOCK;
            for (int from = 0; from < padded; from += BLOCK) {
                fillWords(text, from, padded);
                mixBlock();
            }
        }

        /** Word i of the hash as a number that is not negative. */
        long word(int i) {
            return i >= 0 && i < state.length ? state[i] & 0xFFFFFFFFL : 0;
        }

        private void fillWords(Row text, int from, int padded) {
            for (int t = 0; t < 16; t++) {
                int word = 0;
                for (int k = 0; k < 4; k++) {
                    word = word << 8 | paddedByte(text, from + 4 * t + k, padded);
                }
                words[t] = word;
            }
            for (int t = 16; t < words.length; t++) {
                int mixed = words[t - 3] ^ words[t - 8] ^ words[t - 14] ^ words[t - 16];
                words[t] = rotated(mixed, 1);
            }
        }

        private static int paddedByte(Row text, int i, int padded) {
            int n = text.length();
            if (i < n) {
                return text.at(i);
            }
            if (i == n) {
                return 0x80;
            }
            // The length in bits fits in the last four of its eight BYTES.
            return i >= padded - 4 ? 8 * n >>> 8 * (padded - 1 - i) & 255 : 0;
        }

        private void mixBlock() {
            int a = state[0];
            int b = state[1];
            int c = state[2];
            int d = state[3];
            int e = state[4];
            for (int t = 0; t < words.length; t++) {
                int next = rotated(a, 5) + chosen(t, b, c, d) + e + addend(t) + words[t];
                e = d;
                d = c;
                c = rotated(b, 30);
                b = a;
                a = next;
            }
            state[0] += a;
            state[1] += b;
            state[2] += c;
            state[3] += d;
            state[4] += e;
        }

        private static int chosen(int t, int b, int c, int d) {
            if (t < 20) {
                return b & c | ~b & d;
            }
            if (t < 40 || t >= 60) {
                return b ^ c ^ d;
            }
            return b & c | b & d | c & d;
        }

        private static int addend(int t) {
            if (t < 20) {
                return 0x5A827999;
            }
            if (t < 40) {
                return 0x6ED9EBA1;
            }
            return t < 60 ? 0x8F1BBCDC : 0xCA62C1D6;
        }

        private static int rotated(int x, int n) {
            return x << n | x >>> 32 - n;
        }
    }

    /** Puts bits into a row, the lowest bit of each BYTE first. */
    private static final class BitWriter {
        private Row row;
        private int held;
        private int heldBits;

        BitWriter() {
            row = new Row();
            held = 0;
            heldBits = 0;
        }

        void start(Row target) {
            row = target;
            held = 0;
            heldBits = 0;
        }

        void put(int value, int n) {
            held |= value << heldBits;
            for (heldBits += n; heldBits >= 8; heldBits -= 8) {
                row.add(held & 255);
                held >>>= 8;
            }
        }

        void fillByte() {
            put(0, -heldBits & 7);
        }
    }

    /** Finds the greatest length, and the least distance for it, along chains of like places. */
    private static final class Finder {
        private static final int SLOT_BITS = 12;

        private final int[] newest;
        private int[] before;
        private int length;
        private int distance;

        Finder() {
            newest = new int[1 << SLOT_BITS];
            before = new int[64];
            length = 0;
            distance = 0;
        }

        void start(int n) {
            Arrays.fill(newest, -1);
            if (n > before.length) {
                before = new int[Math.max(n, Math.min(4 * before.length, LONGEST_TEXT))];
            }
        }

        /** The length that was found, 0 if there was none. */
        int length() {
            return length;
        }

        int distance() {
            return distance;
        }

        void find(byte[] text, int n, int place) {
            length = 0;
            distance = 0;
            int most = Math.min(LONGEST_PAIR, n - place);
            if (most < SHORTEST_PAIR) {
                return;
            }
            int lowest = Math.max(0, place - FARTHEST);
            int earlier = newest[slot(text, place)];
            for (int k = 0; k < FARTHEST && earlier >= lowest && length < most; k++) {
                // Only a place that is also alike one BYTE further can better what was found.
                if (text[earlier + length] == text[place + length]) {
                    better(sameBytes(text, earlier, place, most), place - earlier);
                }
                earlier = before[earlier];
            }
        }

        /** Makes these places known to later finds. */
        void note(byte[] text, int n, int place, int places) {
            int behind = Math.min(place + places, n - SHORTEST_PAIR + 1);
            for (int k = place; k < behind; k++) {
                int slot = slot(text, k);
                before[k] = newest[slot];
                newest[slot] = k;
            }
        }

        /** Nearer places come first, so an equal length never takes over. */
        private void better(int foundLength, int foundDistance) {
            if (foundLength >= SHORTEST_PAIR && foundLength > length) {
                length = foundLength;
                distance = foundDistance;
            }
        }

        private static int sameBytes(byte[] text, int earlier, int place, int most) {
            int same = 0;
            while (same < most && text[earlier + same] == text[place + same]) {
                same++;
            }
            return same;
        }

        private static int slot(byte[] text, int place) {
            int three = (text[place] & 255) << 16 | (text[place + 1] & 255) << 8 | text[place + 2] & 255;
            return three * 0x9E3779B1 >>> 32 - SLOT_BITS;
        }
    }

    /** Makes the DEFLATED form. */
    private static final class Presser {
        private final BitWriter bits;
        private final Finder finder;
        private int pairs;
        private int literals;

        Presser() {
            bits = new BitWriter();
            finder = new Finder();
            pairs = 0;
            literals = 0;
        }

        int pairs() {
            return pairs;
        }

        int literals() {
            return literals;
        }

        void run(Row text, Row form) {
            int n = text.length();
            byte[] bytes = text.bytes();
            startForm(form);
            finder.start(n);
            pairs = 0;
            literals = 0;
            int taken = 0;
            for (int place = 0; place < n; place += taken) {
                finder.find(bytes, n, place);
                if (finder.length() == 0) {
                    putSymbol(bytes[place] & 255);
                    literals++;
                } else {
                    putPair(finder.length(), finder.distance());
                    pairs++;
                }
                taken = Math.max(1, finder.length());
                finder.note(bytes, n, place, taken);
            }
            putSymbol(END_OF_BLOCK);
            bits.fillByte();
            form.addNumber(text.adler32());
        }

        private void startForm(Row form) {
            form.shorten(0);
            form.add(FIRST_BYTE);
            form.add(SECOND_BYTE);
            bits.start(form);
            bits.put(LAST_BLOCK, 1);
            bits.put(FIXED_CODES, 2);
        }

        private void putPair(int length, int distance) {
            int lengthCode = codeOf(length, LENGTH_BASE);
            putSymbol(FIRST_LENGTH_SYMBOL + lengthCode);
            bits.put(length - LENGTH_BASE[lengthCode], LENGTH_EXTRA[lengthCode]);
            int distanceCode = codeOf(distance, DISTANCE_BASE);
            bits.put(reversed(distanceCode, 5), 5);
            bits.put(distance - DISTANCE_BASE[distanceCode], DISTANCE_EXTRA[distanceCode]);
        }

        private void putSymbol(int symbol) {
            if (symbol < 144) {
                bits.put(reversed(0x30 + symbol, 8), 8);
            } else if (symbol < 256) {
                bits.put(reversed(0x190 + symbol - 144, 9), 9);
            } else if (symbol < 280) {
                bits.put(reversed(symbol - 256, 7), 7);
            } else {
                bits.put(reversed(0xC0 + symbol - 280, 8), 8);
            }
        }

        /** The code with the last base that is no greater than the number. */
        private static int codeOf(int number, int[] bases) {
            int code = 0;
            for (int k = 1; k < bases.length && bases[k] <= number; k++) {
                code = k;
            }
            return code;
        }

        /** Huffman codes, and nothing else, go with their highest bit first. */
        private static int reversed(int code, int n) {
            int reversed = 0;
            for (int k = 0; k < n; k++) {
                reversed = reversed << 1 | code >>> k & 1;
            }
            return reversed;
        }
    }

    /** Takes bits from a form; behind its end come zeros, and ranOut() tells of it. */
    private static final class BitReader {
        private byte[] bytes;
        private int bitsInAll;
        private int place;
        private boolean ranOut;

        BitReader() {
            bytes = new byte[0];
            bitsInAll = 0;
            place = 0;
            ranOut = false;
        }

        void start(Row form) {
            bytes = form.bytes();
            bitsInAll = 8 * form.length();
            place = 0;
            ranOut = false;
        }

        int take(int n) {
            int value = 0;
            for (int k = 0; k < n; k++) {
                if (place >= bitsInAll) {
                    ranOut = true;
                    return value;
                }
                value |= (bytes[place >> 3] >> (place & 7) & 1) << k;
                place++;
            }
            return value;
        }

        /** Four BYTES as a number, the highest first. */
        int takeNumber() {
            int number = 0;
            for (int k = 0; k < 4; k++) {
                number = number << 8 | take(8);
            }
            return number;
        }

        void skipToByte() {
            place = place + 7 & ~7;
        }

        boolean ranOut() {
            return ranOut;
        }

        boolean isAtEnd() {
            return place == bitsInAll && !ranOut;
        }
    }

    /** A Huffman code, as the lengths of its symbols' codes tell it. */
    private static final class Code {
        private static final int LONGEST_CODE = 15;

        /** How many codes there are of each length; none of length 0. */
        private final int[] numbers;
        private final int[] starts;
        private final int[] symbols;

        Code(int mostSymbols) {
            numbers = new int[LONGEST_CODE + 1];
            starts = new int[LONGEST_CODE + 1];
            symbols = new int[mostSymbols];
        }

        /** Lengths are 0 .. 15, and no more of them than the code has symbols at most. */
        void tell(int[] lengths, int from, int n) {
            Arrays.fill(numbers, 0);
            for (int k = 0; k < n; k++) {
                numbers[lengths[from + k]]++;
            }
            numbers[0] = 0;
            starts[0] = 0;
            for (int length = 1; length <= LONGEST_CODE; length++) {
                starts[length] = starts[length - 1] + numbers[length - 1];
            }
            for (int k = 0; k < n; k++) {
                int length = lengths[from + k];
                if (length != 0) {
                    symbols[starts[length]] = k;
                    starts[length]++;
                }
            }
        }

        boolean isFull() {
            int left = 1 << LONGEST_CODE;
            for (int length = 1; length <= LONGEST_CODE; length++) {
                left -= numbers[length] << LONGEST_CODE - length;
            }
            return left == 0;
        }

        /** No code, or one of 1 bit alone. */
        boolean isScant() {
            int codes = 0;
            for (int length = 1; length <= LONGEST_CODE; length++) {
                codes += numbers[length];
            }
            return codes == 0 || codes == 1 && numbers[1] == 1;
        }

        /** The symbol whose code comes next, -1 if it is no code. Only for codes full or scant. */
        int next(BitReader bits) {
            int code = 0;
            int first = 0;
            int shorter = 0;
            for (int length = 1; length <= LONGEST_CODE; length++) {
                code = code << 1 | bits.take(1);
                first <<= 1;
                int here = code - first;
                if (here < numbers[length]) {
                    return symbols[shorter + here];
                }
                shorter += numbers[length];
                first += numbers[length];
            }
            return -1;
        }
    }

    /** READING: all that it looks at answers false where the form is DAMAGED. */
    private static final class Unpresser {
        private static final int MOST_LETTERS = 286;
        private static final int MOST_DISTANCES = 30;
        private static final int SIZES = 19;
        private static final int FIXED_LETTERS = 288;
        private static final int FIXED_DISTANCES = 32;

        private final BitReader bits;
        private final int[] lengths;
        private final Code fixedLetters;
        private final Code fixedDistances;
        private final Code sizes;
        private final Code letters;
        private final Code distances;
        private int blocks;
        private int toldBlocks;

        Unpresser() {
            bits = new BitReader();
            lengths = new int[MOST_LETTERS + MOST_DISTANCES];
            fixedLetters = new Code(FIXED_LETTERS);
            for (int k = 0; k < FIXED_LETTERS; k++) {
                lengths[k] = k < 144 ? 8 : k < 256 ? 9 : k < 280 ? 7 : 8;
            }
            fixedLetters.tell(lengths, 0, FIXED_LETTERS);
            fixedDistances = new Code(FIXED_DISTANCES);
            Arrays.fill(lengths, 5);
            fixedDistances.tell(lengths, 0, FIXED_DISTANCES);
            sizes = new Code(SIZES);
            letters = new Code(MOST_LETTERS);
            distances = new Code(MOST_DISTANCES);
            blocks = 0;
            toldBlocks = 0;
        }

        int blocks() {
            return blocks;
        }

        int toldBlocks() {
            return toldBlocks;
        }

        boolean read(Row form, Row text) {
            bits.start(form);
            text.shorten(0);
            blocks = 0;
            toldBlocks = 0;
            if (!headIsRight()) {
                return false;
            }
            boolean last = false;
            for (int k = 0; k < MOST_BITS && !last; k++) {
                last = bits.take(1) == LAST_BLOCK;
                if (!readBlock(bits.take(2), text) || bits.ranOut()) {
                    return false;
                }
                blocks++;
            }
            bits.skipToByte();
            return last && bits.takeNumber() == text.adler32() && bits.isAtEnd();
        }

        private boolean headIsRight() {
            int first = bits.take(8);
            int second = bits.take(8);
            boolean isDeflated = (first & 15) == 8 && first >> 4 <= 7;
            boolean hasDictionary = (second & 32) != 0;
            return isDeflated && !hasDictionary && (256 * first + second) % 31 == 0;
        }

        private boolean readBlock(int sort, Row text) {
            switch (sort) {
                case STORED:
                    return readStored(text);
                case FIXED_CODES:
                    return readCoded(fixedLetters, fixedDistances, text);
                case TOLD_CODES:
                    toldBlocks++;
                    return readCodes() && readCoded(letters, distances, text);
                default:
                    return false;
            }
        }

        private boolean readStored(Row text) {
            bits.skipToByte();
            int n = bits.take(16);
            int check = bits.take(16);
            if ((n ^ 0xFFFF) != check || text.length() + n > LONGEST_TEXT) {
                return false;
            }
            for (int k = 0; k < n && !bits.ranOut(); k++) {
                text.add(bits.take(8));
            }
            return true;
        }

        private boolean readCoded(Code letterCode, Code distanceCode, Row text) {
            for (int k = 0; k < MOST_BITS && !bits.ranOut(); k++) {
                int symbol = letterCode.next(bits);
                if (symbol == END_OF_BLOCK) {
                    return true;
                }
                if (symbol > END_OF_BLOCK) {
                    if (!readPair(symbol - FIRST_LENGTH_SYMBOL, distanceCode, text)) {
                        return false;
                    }
                } else if (symbol < 0 || text.length() >= LONGEST_TEXT) {
                    return false;
                } else {
                    text.add(symbol);
                }
            }
            return false;
        }

        private boolean readPair(int lengthSymbol, Code distanceCode, Row text) {
            if (lengthSymbol >= LENGTH_BASE.length) {
                return false;
            }
            int length = LENGTH_BASE[lengthSymbol] + bits.take(LENGTH_EXTRA[lengthSymbol]);
            int symbol = distanceCode.next(bits);
            if (symbol < 0 || symbol >= DISTANCE_BASE.length) {
                return false;
            }
            int distance = DISTANCE_BASE[symbol] + bits.take(DISTANCE_EXTRA[symbol]);
            if (distance > text.length() || text.length() + length > LONGEST_TEXT) {
                return false;
            }
            for (int k = 0; k < length; k++) {
                text.add(text.at(text.length() - distance));
            }
            return true;
        }

        private boolean readCodes() {
            int letterCodes = bits.take(5) + 257;
            int distanceCodes = bits.take(5) + 1;
            int sizeCodes = bits.take(4) + 4;
            if (letterCodes > MOST_LETTERS || distanceCodes > MOST_DISTANCES) {
                return false;
            }
            Arrays.fill(lengths, 0);
            for (int k = 0; k < sizeCodes; k++) {
                lengths[SIZE_ORDER[k]] = bits.take(3);
            }
            sizes.tell(lengths, 0, SIZES);
            if (!sizes.isFull() || !readLengths(letterCodes + distanceCodes)) {
                return false;
            }
            letters.tell(lengths, 0, letterCodes);
            distances.tell(lengths, letterCodes, distanceCodes);
            boolean hasEnd = lengths[END_OF_BLOCK] != 0;
            return hasEnd && letters.isFull() && (distances.isFull() || distances.isScant());
        }

        /** The lengths of both codes are one row: a repeat may go from the first into the second. */
        private boolean readLengths(int total) {
            int done = 0;
            for (int k = 0; k < total && done < total; k++) {
                int symbol = sizes.next(bits);
                if (symbol < 0 || symbol == 16 && done == 0) {
                    return false;
                }
                int length = symbol < 16 ? symbol : symbol == 16 ? lengths[done - 1] : 0;
                int behind = done + readTimes(symbol);
                if (behind > total) {
                    return false;
                }
                for (; done < behind; done++) {
                    lengths[done] = length;
                }
            }
            return done == total;
        }

        private int readTimes(int symbol) {
            switch (symbol) {
                case 16:
                    return 3 + bits.take(2);
                case 17:
                    return 3 + bits.take(3);
                case 18:
                    return 11 + bits.take(7);
                default:
                    return 1;
            }
        }
    }
}
