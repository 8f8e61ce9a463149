/** What the tests share to tell a wrong answer and to end with the right exit code. */
final class Check {
    private static final int MOST_TOLD = 40;
    private static int checked = 0;
    private static int wrong = 0;

    interface Call {
        long run();
    }

    private Check() {
    }

    static void due(String what, long got, long want) {
        checked++;
        if (got != want) {
            tell(what + " answered " + got + ", due is " + want);
        }
    }

    static void due(String what, String got, String want) {
        checked++;
        if (!got.equals(want)) {
            tell(what + " answered " + got + ", due is " + want);
        }
    }

    static void due(String what, byte[] got, byte[] want) {
        int place = java.util.Arrays.mismatch(got, want);
        checked++;
        if (place >= 0) {
            tell(what + ": " + got.length + " BYTES, due are " + want.length
                    + ", they part at place " + place);
        }
    }

    /** The exception must be of this very class: one of a class below it would be another answer. */
    static void dueThrow(String what, Class<? extends RuntimeException> want, Call call) {
        String got = "nothing";
        try {
            call.run();
        } catch (RuntimeException e) {
            got = e.getClass().getSimpleName();
        }
        checked++;
        if (!got.equals(want.getSimpleName())) {
            tell(what + " threw " + got + ", due is " + want.getSimpleName());
        }
    }

    /** One fault can make thousands of wrong answers: the first ones tell enough. */
    private static void tell(String fault) {
        wrong++;
        if (wrong <= MOST_TOLD) {
            System.out.println(fault);
        }
    }

    static void finish() {
        if (wrong == 0 && checked > 0) {
            System.out.println("all " + checked + " answers are as due");
            return;
        }
        System.out.println(wrong + " of " + checked + " answers are not as due");
        System.exit(1);
    }
}
