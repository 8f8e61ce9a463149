/** The DEFLATED form by the document's words: each place before is looked at, the nearest first. */
final class PlainPress {
    private static final int[] LENGTH_BASE = new int[29];
    private static final int[] LENGTH_EXTRA = new int[29];
    private static final int[] DISTANCE_BASE = new int[30];
    private static final int[] DISTANCE_EXTRA = new int[30];

    /** RFC 1951, 3.2.5: the bases follow from the extra bits. */
    static {
        int length = 3;
        for (int k = 0; k < 28; k++) {
            LENGTH_BASE[k] = length;
            LENGTH_EXTRA[k] = k < 8 ? 0 : k / 4 - 1;
            length += 1 << LENGTH_EXTRA[k];
        }
        LENGTH_BASE[28] = 258;
        int distance = 1;
        for (int k = 0; k < 30; k++) {
            DISTANCE_BASE[k] = distance;
            DISTANCE_EXTRA[k] = k < 4 ? 0 : k / 2 - 1;
            distance += 1 << DISTANCE_EXTRA[k];
        }
    }

    final byte[] form;
    private int pairs;
    private int literals;

    PlainPress(byte[] text) {
        Form made = Form.begun().fixed(1);
        int place = 0;
        while (place < text.length) {
            place += step(made, text, place);
        }
        form = made.end().of(text);
    }

    static int lengthBase(int code) {
        return LENGTH_BASE[code];
    }

    static int lengthExtra(int code) {
        return LENGTH_EXTRA[code];
    }

    static int distanceBase(int code) {
        return DISTANCE_BASE[code];
    }

    static int distanceExtra(int code) {
        return DISTANCE_EXTRA[code];
    }

    int pairs() {
        return pairs;
    }

    int literals() {
        return literals;
    }

    private int step(Form made, byte[] text, int place) {
        int length = 0;
        int distance = 0;
        int most = Math.min(258, text.length - place);
        for (int d = 1; d <= Math.min(place, 32768) && length < most; d++) {
            int same = 0;
            while (same < most && text[place + same] == text[place - d + same]) {
                same++;
            }
            if (same > length) {
                length = same;
                distance = d;
            }
        }
        if (length < 3) {
            made.letter(text[place] & 255);
            literals++;
            return 1;
        }
        putPair(made, length, distance);
        pairs++;
        return length;
    }

    private static void putPair(Form form, int length, int distance) {
        int code = 28;
        while (LENGTH_BASE[code] > length) {
            code--;
        }
        form.letter(257 + code).bits(length - LENGTH_BASE[code], LENGTH_EXTRA[code]);
        code = 29;
        while (DISTANCE_BASE[code] > distance) {
            code--;
        }
        form.distance(code).bits(distance - DISTANCE_BASE[code], DISTANCE_EXTRA[code]);
    }
}
