/** Counts the answers that are not as due; each test's main ends with {@link #end}. */
final class Check {
    private static int looked = 0;
    private static int wrong = 0;

    private Check() {
    }

    static void due(String call, long got, long want) {
        looked++;
        if (got == want) return;
        wrong++;
        if (wrong <= 40) System.out.println(call + " answered " + got + ", due is " + want);
    }

    /** Feeds a text, sign by sign, and makes a HOUSE of it. */
    static int house(NineWindows x, String text) {
        for (int i = 0; i < text.length(); i++) x.feed(text.charAt(i));
        return x.house();
    }

    static void end(String test) {
        System.out.println(test + ": " + looked + " answers, " + wrong + " not as due");
        if (wrong != 0) System.exit(1);
    }
}
