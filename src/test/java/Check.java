/** Counts what is not as due; a test ends with finish(), which tells by its exit code. */
final class Check {
    private static int checks = 0;
    private static int wrong = 0;
    private static String sentence = "";
    private static int checksBefore = 0;

    private Check() {
    }

    /** The checks that follow are about these words of the document; each sentence must have some. */
    static void sentence(String words) {
        endSentence();
        sentence = words;
        checksBefore = checks;
    }

    private static void endSentence() {
        if (!sentence.isEmpty() && checks == checksBefore) {
            tellWrong("nothing was checked");
        }
    }

    private static void tellWrong(String what) {
        wrong++;
        System.out.println((sentence.isEmpty() ? "" : "\"" + sentence + "\": ") + what);
    }

    static void due(String call, long got, long want) {
        checks++;
        if (got != want) {
            tellWrong(call + " answered " + got + ", due is " + want);
        }
    }

    static void illegal(String call, Runnable body) {
        thrown(call, body, IllegalArgumentException.class);
    }

    static void outOfBounds(String call, Runnable body) {
        thrown(call, body, IndexOutOfBoundsException.class);
    }

    private static void thrown(String call, Runnable body, Class<? extends RuntimeException> want) {
        checks++;
        String got = "nothing";
        try {
            body.run();
        } catch (RuntimeException e) {
            // Only this class itself is due: ArrayIndexOutOfBoundsException would be a slip of the program.
            if (e.getClass() == want) {
                return;
            }
            got = e.getClass().getSimpleName();
        }
        tellWrong(call + " threw " + got + ", due is " + want.getSimpleName());
    }

    /** One told ERROR whole: which, PC, NUMBER and four RETURNS. */
    static void error(String about, Renewed host, int k, int... want) {
        if (k >= host.count(4)) {
            due(about + ": ERRORS told are more than " + k, host.count(4), k + 1);
            return;
        }
        for (int what = 0; what < want.length; what++) {
            due(about + ": error(" + k + ", " + what + ")", host.error(k, what), want[what]);
        }
    }

    static void finish() {
        endSentence();
        System.out.println(checks + " checks, " + wrong + " wrong");
        if (wrong != 0 || checks == 0) {
            System.exit(1);
        }
    }
}
