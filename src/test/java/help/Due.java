/** Counts the answers that are not as due; help for all tests. */
final class Due {
    /** No test takes a hundredth of it; a call that does not end must not stop .ci/run for ever. */
    private static final int SECONDS = 600;

    private static int checked = 0;
    private static int wrong = 0;
    private static String sentence = "";

    static {
        Thread watch = new Thread(Due::endAfterAll);
        watch.setDaemon(true);
        watch.start();
    }

    private Due() {
    }

    private static void endAfterAll() {
        try {
            Thread.sleep(1000L * SECONDS);
        } catch (InterruptedException e) {
            return;
        }
        System.out.println(sentence + "some call has not ended");
        System.exit(1);
    }

    /** All that is checked from here on is about these words of the document. */
    static void sentence(String words) {
        sentence = "\"" + words + "\" ";
        same("does the document say so?", Document.says(words) ? "yes" : "no", "yes");
    }

    static void is(String call, long got, long want) {
        same(call, Long.toString(got), Long.toString(want));
    }

    static void same(String call, String got, String want) {
        checked++;
        if (!got.equals(want)) {
            wrong++;
            System.out.println(sentence + call + " answered " + got + ", due is " + want);
        }
    }

    static boolean anyWrong() {
        return wrong > 0;
    }

    /** To be called at the end of a test's main. */
    static void end() {
        System.out.println(checked + " answers, " + wrong + " of them not as due");
        if (wrong > 0 || checked == 0) {
            System.exit(1);
        }
    }
}
