/** Counts the answers that are not as due; help for all tests. */
final class Due {
    private static int checked = 0;
    private static int wrong = 0;

    private Due() {
    }

    static void is(String call, long got, long want) {
        same(call, Long.toString(got), Long.toString(want));
    }

    static void same(String call, String got, String want) {
        checked++;
        if (!got.equals(want)) {
            wrong++;
            System.out.println(call + " answered " + got + ", due is " + want);
        }
    }

    static boolean anyWrong() {
        return wrong > 0;
    }

    /** To be called at the end of a test's main. */
    static void end() {
        System.out.println(checked + " answers, " + wrong + " of them not as due");
        if (wrong > 0 || checked == 0) {
            System.exit(1);
        }
    }
}
