/** Counts the answers of one test that are not the ones that are due. */
final class Check {
    private static int looked = 0;
    private static int wrong = 0;

    private Check() {
    }

    static void due(String call, long got, long want) {
        looked++;
        if (got != want) {
            wrong++;
            System.out.println(call + " answered " + got + ", due is " + want);
        }
    }

    /** The answers of a run of calls of one kind, told as one row. */
    static void row(String call, long[] got, long... want) {
        due(call + ", how many", got.length, want.length);
        for (int i = 0; i < Math.min(got.length, want.length); i++) {
            due(call + ", place " + i, got[i], want[i]);
        }
    }

    /** A call was refused so, and all that can be asked is as it was. */
    static void refused(String call, TradedDesigns x, Look before, long got, long want) {
        due(call, got, want);
        String change = before.changeTo(new Look(x));
        due(call + " changed " + change, change.isEmpty() ? 0 : 1, 0);
    }

    static void feed(TradedDesigns x, String text) {
        for (int i = 0; i < text.length(); i++) {
            int before = x.counted(3);
            due("feed of sign " + i + " of '" + text + "'", x.feed(text.charAt(i)), before + 1);
        }
    }

    static int read(TradedDesigns x, String text) {
        feed(x, text);
        return x.read();
    }

    static String written(TradedDesigns x) {
        StringBuilder text = new StringBuilder();
        for (int i = 0; i < 1000 && x.written(i) != -5; i++) {
            text.append((char) x.written(i));
        }
        return text.toString();
    }

    static void text(String call, String got, String want) {
        looked++;
        if (!got.equals(want)) {
            wrong++;
            System.out.println(call + " answered '" + got + "', due is '" + want + "'");
        }
    }

    static void end() {
        System.out.println(looked + " looked at, " + wrong + " not as due");
        if (wrong != 0) {
            System.exit(1);
        }
    }
}
