/** Counts the answers of one test that are not the ones that are due. */
final class Check {
    private static int looked = 0;
    private static int wrong = 0;
    private static final long MOST_SECONDS = 300;
    private static String about = "";

    static {
        Thread watch = new Thread(Check::endWhatDoesNotEnd);
        watch.setDaemon(true);
        watch.start();
    }

    private Check() {
    }

    // A call that does not end would hold up .ci/run for good.
    private static void endWhatDoesNotEnd() {
        try {
            Thread.sleep(MOST_SECONDS * 1000);
        } catch (InterruptedException woken) {
            return;
        }
        System.out.println(about + "no end after " + MOST_SECONDS + " seconds");
        Runtime.getRuntime().halt(1);
    }

    /** What the next answers are looked at for: it stands ahead of each that is not as due. */
    static void about(String sentence) {
        about = sentence;
    }

    static void due(String call, long got, long want) {
        looked++;
        if (got != want) {
            wrong++;
            System.out.println(about + call + " answered " + got + ", due is " + want);
        }
    }

    /** The answers of a run of calls of one kind, told as one row. */
    static void row(String call, long[] got, long... want) {
        due(call + ", how many", got.length, want.length);
        for (int i = 0; i < Math.min(got.length, want.length); i++) {
            due(call + ", place " + i, got[i], want[i]);
        }
    }

    static void feed(TradedDesigns x, String text) {
        for (int i = 0; i < text.length(); i++) {
            int before = x.counted(3);
            due("feed of sign " + i + " of '" + text + "'", x.feed(text.charAt(i)), before + 1);
        }
    }

    static int read(TradedDesigns x, String text) {
        feed(x, text);
        return x.read();
    }

    static String written(TradedDesigns x) {
        StringBuilder text = new StringBuilder();
        for (int i = 0; i < 1000 && x.written(i) != -5; i++) {
            text.append((char) x.written(i));
        }
        return text.toString();
    }

    static void text(String call, String got, String want) {
        looked++;
        if (!got.equals(want)) {
            wrong++;
            System.out.println(about + call + " answered '" + got + "', due is '" + want + "'");
        }
    }

    static void end() {
        System.out.println(looked + " looked at, " + wrong + " not as due");
        if (wrong != 0) {
            System.exit(1);
        }
    }
}
