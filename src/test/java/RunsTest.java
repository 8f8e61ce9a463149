import java.util.Arrays;
import java.util.Random;
import java.util.zip.Deflater;

/** All promises together: runs of 512 calls at random, each answer against the plain model's. */
public final class RunsTest {
    private static final int CALLS = 512;
    private static final int RUNS = 120;
    /** The plain press looks at every place before every place: longer TEXTS would take too long. */
    private static final int MOST_PRESSED = 12000;
    private static final int[] EDGES = {
        -1, 0, 1, 255, 256, 65535, 65536, 65537, Integer.MIN_VALUE, Integer.MAX_VALUE
    };

    private final Random random;
    private final TextPress press = new TextPress();
    private final Model model = new Model();
    private final String name;
    private byte[] form = new byte[0];
    private int fed;
    private int calls;

    private RunsTest(int run) {
        random = new Random(run);
        name = "run " + run;
    }

    public static void main(String[] args) {
        for (int run = 0; run < RUNS; run++) {
            RunsTest test = new RunsTest(run);
            while (test.calls < CALLS) {
                test.step();
            }
        }
        Check.finish();
    }

    private void step() {
        int what = random.nextInt(100);
        if (fed < form.length) {
            feedForm();
        } else if (what < 12) {
            feed();
        } else if (what < 20) {
            int n = random.nextInt(4) == 0 ? number(model.count(0)) : random.nextInt(4);
            both("end(" + n + ")", () -> press.end(n), () -> model.end(n));
        } else if (what < 26) {
            change();
        } else if (what < 36 && model.count(0) <= MOST_PRESSED) {
            both("press()", press::press, model::press);
        } else if (what < 48) {
            both("open()", press::open, model::open);
        } else if (what < 58) {
            both("turn()", press::turn, model::turn);
        } else if (what < 66) {
            int part = random.nextInt(4) == 0 ? number(3) : random.nextInt(3);
            both("hash(" + part + ")", () -> press.hash(part), () -> model.hash(part));
        } else if (what < 80) {
            int i = number(model.count(1));
            both("letter(" + i + ")", () -> press.letter(i), () -> model.letter(i));
        } else if (what < 94) {
            int k = random.nextInt(8) == 0 ? number(7) : random.nextInt(7);
            both("count(" + k + ")", () -> press.count(k), () -> model.count(k));
        } else {
            startForm();
        }
    }

    /** A place within, or at an edge of, a row of so many; or a number of no sense. */
    private int number(int n) {
        switch (random.nextInt(4)) {
            case 0:
                return n - 1 + random.nextInt(3);
            case 1:
                return EDGES[random.nextInt(EDGES.length)];
            default:
                return random.nextInt(n + 1);
        }
    }

    private void change() {
        int i = random.nextBoolean() ? number(model.count(0)) : random.nextInt(model.count(0) + 1);
        int x = random.nextInt(5) == 0 ? number(256) : 1 << random.nextInt(8);
        Check.Call changed = () -> {
            press.change(i, x);
            return 0;
        };
        both("change(" + i + ", " + x + ")", changed, () -> {
            model.change(i, x);
            return 0;
        });
    }

    private void feed() {
        int[] words = new int[5];
        int letters = 1 + random.nextInt(4);
        for (int k = 0; k < 5; k++) {
            words[k] = letters == 4 ? random.nextInt() : 0x01010101 * random.nextInt(letters);
        }
        feed(words);
    }

    private void feed(int[] words) {
        both("feed of " + Arrays.toString(words),
                () -> press.feed(words[0], words[1], words[2], words[3], words[4]),
                () -> model.feed(words[0], words[1], words[2], words[3], words[4]));
    }

    /** INPUT goes, and the calls that come feed a form of another maker, up to its last BYTE. */
    private void startForm() {
        int n = model.count(0);
        both("end(" + n + ")", () -> press.end(n), () -> model.end(n));
        int sort = random.nextInt(8);
        byte[] text = sort == 0 ? Texts.same(random.nextInt(256), 65500 + random.nextInt(60))
                : Texts.random(random, random.nextInt(300), 1 + random.nextInt(40));
        form = Texts.deflated(text, random.nextInt(10), Deflater.DEFAULT_STRATEGY);
        if (form.length > 500) {
            form = Texts.deflated(text, 9, Deflater.DEFAULT_STRATEGY);
        }
        fed = 0;
    }

    private void feedForm() {
        int[] words = new int[5];
        for (int k = 0; k < 20; k++) {
            int x = fed + k < form.length ? form[fed + k] & 255 : 0;
            words[k / 4] = words[k / 4] << 8 | x;
        }
        feed(words);
        fed += 20;
        if (fed >= form.length) {
            int over = fed - form.length;
            both("end(" + over + ")", () -> press.end(over), () -> model.end(over));
            both("open()", press::open, model::open);
            both("turn()", press::turn, model::turn);
        }
    }

    private void both(String call, Check.Call got, Check.Call want) {
        calls++;
        if (calls <= CALLS) {
            Check.due(name + ", call " + calls + ", " + call, answer(got), answer(want));
        }
    }

    private static String answer(Check.Call call) {
        try {
            return Long.toString(call.run());
        } catch (RuntimeException e) {
            return "throws." + e.getClass().getSimpleName();
        }
    }
}
