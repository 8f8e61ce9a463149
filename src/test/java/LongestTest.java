import java.util.ArrayDeque;
import java.util.ArrayList;
import java.util.Arrays;
import java.util.Deque;
import java.util.List;
import java.util.zip.DataFormatException;
import java.util.zip.Inflater;

/**
 * The longest form that press can make: 65536 LITERALS of nine bits each.
 *
 * <p>Its TEXT may hold no three BYTES twice within 32768 places, so it is far too long to be fed,
 * and no form of it is short, as there are no PAIRS. But a form of a form of it is short. The
 * BYTES 144 .. 255 are laid out in sixteen columns of seven. Each block of the inner form tells
 * sixteen of them, one of each column, to the same bits: so the blocks of the inner form look
 * alike, while those of the TEXT share no three BYTES.
 */
public final class LongestTest {
    private static final int COLUMNS = 16;
    private static final int ROWS = 7;
    private static final int LONGEST_FORM = 73736;

    public static void main(String[] args) throws DataFormatException {
        byte[] text = text();
        byte[] inner = innerForm(text);
        TextPress press = withText(text, inner);
        Check.due("press", press.press(), LONGEST_FORM);
        int[] counts = {Texts.LONGEST, LONGEST_FORM, 0, Texts.LONGEST, press.count(4), press.count(5), 0};
        dueCounts("pressed", press, counts);
        refused(press, text, counts);
        byte[] form = Texts.output(press);
        Check.due("OUTPUT", form, Form.begun().fixed(1).letters(text).end().of(text));
        Check.due("OUTPUT, by the JDK", inflated(form), text);
        TextPress shorter = withText(text, inner);
        Check.due("end(1)", shorter.end(1), Texts.LONGEST - 1);
        Check.due("press of one BYTE less", shorter.press(), LONGEST_FORM - 1);
        Check.finish();
    }

    private static TextPress withText(byte[] text, byte[] inner) {
        byte[] outer = Texts.deflated(inner, 9, 0);
        Check.due("the outer form takes too many calls", outer.length > 300 * 20 ? 1 : 0, 0);
        TextPress press = new TextPress();
        Texts.feedAll(press, outer);
        Check.due("open of the outer form", press.open(), inner.length);
        Check.due("turn of the inner form", press.turn(), inner.length);
        Check.due("open of the inner form", press.open(), Texts.LONGEST);
        Check.due("turn of the TEXT", press.turn(), Texts.LONGEST);
        Check.due("the TEXT, hash(0)", press.hash(0), Texts.sha1(text, 0));
        return press;
    }

    private static void refused(TextPress press, byte[] text, int[] counts) {
        Check.dueThrow("turn", IllegalStateException.class, press::turn);
        dueCounts("turn refused", press, counts);
        Check.due("the TEXT behind it, hash(1)", press.hash(1), Texts.sha1(text, 1));
        Check.dueThrow("open", ArithmeticException.class, press::open);
        counts[6] = 1;
        dueCounts("open refused", press, counts);
        Check.dueThrow("letter 73736", IndexOutOfBoundsException.class, () -> press.letter(LONGEST_FORM));
    }

    private static void dueCounts(String what, TextPress press, int[] want) {
        for (int k = 0; k < want.length; k++) {
            Check.due(what + ", count(" + k + ")", press.count(k), want[k]);
        }
    }

    private static byte[] inflated(byte[] form) throws DataFormatException {
        Inflater inflater = new Inflater();
        inflater.setInput(form);
        byte[] text = new byte[Texts.LONGEST];
        inflater.inflate(text);
        inflater.end();
        return text;
    }

    /** Columns that stand in each other's group may not stand three in a row. */
    private static int group(int column) {
        return column / 3;
    }

    /** Fourteen sorts of block: what two of them have in common is of one group's columns. */
    private static int letter(int block, int column) {
        int row = block % (2 * ROWS) < ROWS ? block : block + group(column);
        return 144 + ROWS * column + row % ROWS;
    }

    private static byte[] text() {
        int[] round = round();
        byte[] text = new byte[Texts.LONGEST];
        for (int i = 0; i < text.length; i++) {
            text[i] = (byte) letter(i / round.length, round[i % round.length]);
        }
        return text;
    }

    /** A stored block before each told one makes all of these begin at a BYTE. */
    private static byte[] innerForm(byte[] text) {
        int length = round().length;
        Form form = Form.begun();
        for (int from = 0; from < text.length; from += length) {
            int behind = Math.min(from + length, text.length);
            int[] sizes = new int[257];
            for (int column = 0; column < COLUMNS; column++) {
                sizes[letter(from / length, column)] = column == COLUMNS - 1 ? 5 : 4;
            }
            sizes[256] = 5;
            form.stored(0, new byte[0]).told(behind == text.length ? 1 : 0, sizes, Form.NO_DISTANCE);
            form.letters(Arrays.copyOfRange(text, from, behind)).end();
        }
        return form.of(text);
    }

    /** Every three columns in a row, but those of one group, once: a round trip over all of them. */
    private static int[] round() {
        int[] tried = new int[COLUMNS * COLUMNS];
        Deque<Integer> open = new ArrayDeque<>();
        List<Integer> trip = new ArrayList<>();
        open.push(COLUMNS - 2);
        while (!open.isEmpty()) {
            int first = open.peek() / COLUMNS;
            int second = open.peek() % COLUMNS;
            int third = tried[open.peek()]++;
            if (third >= COLUMNS) {
                trip.add(second);
                open.pop();
            } else if (group(first) != group(second) || group(second) != group(third)) {
                open.push(second * COLUMNS + third);
            }
        }
        int[] round = new int[trip.size() - 1];
        for (int i = 0; i < round.length; i++) {
            round[i] = trip.get(round.length - 1 - i);
        }
        return round;
    }
}
