/** Promises 11 to 13: minutes. */
public final class MinutesTest {
    private static void pass() {
        NineWindows x = new NineWindows();
        x.window(0, 0, 0, 0, 1);
        x.window(3, 0, 0, 0, 1);
        Check.due("11: -1", x.pass(-1), -2);
        Check.due("11: 100", x.pass(100), -2);
        Check.due("11: 0", x.pass(0), 0);
        Check.due("11: ahead of the storm", x.pass(20), 0);
        Check.due("11: its first minute", x.pass(1), 9);
        Check.due("11: the rest and more", x.pass(99), 14 * 9);
        Check.due("11: minute", x.told(0), 120);
        Check.due("11: wet", x.told(1), 135);
        Check.due("11: it is over", x.pass(99), 0);
    }

    private static void passToTheLastMinute() {
        NineWindows x = new NineWindows();
        for (int i = 0; i < 101; i++) x.pass(99);
        Check.due("11: 9999", x.told(0), 9999);
        Check.due("11: one more", x.pass(1), -3);
        Check.due("11: none more", x.pass(0), 0);
        Check.due("11: bad ahead", x.pass(100), -2);
        Check.due("11: stays", x.told(0), 9999);
        x.window(0, 0, 0, 0, 1);
        Check.due("12: no minutes are left", x.shut(0), -3);
        Check.due("12: open still", x.told(8), 1);
        Check.due("13: asked on", x.on(99), 0);
    }

    private static void shutInTheLastMinute() {
        NineWindows x = new NineWindows();
        x.window(0, 0, 0, 1, 1);
        x.window(0, 0, 0, 0, 2);
        for (int i = 0; i < 100; i++) x.pass(99);
        x.pass(97);
        Check.due("12: 9997", x.told(0), 9997);
        Check.due("12: to 9999", x.shut(0), 2);
        Check.due("12: 9999", x.told(0), 9999);
        Check.due("12: not beyond", x.shut(1), -3);
    }

    /** A storm of 99 minutes: each of them counts once. */
    private static void theLongestStorm() {
        NineWindows x = new NineWindows();
        x.window(0, 0, 0, 0, 1);
        Check.house(x, "wet 1 t<97;wet 10 t=97;wet 20 t=98;last 99");
        x.storm(0, 0);
        Check.due("13: 97", x.on(97), 97 * 4);
        Check.due("13: 98", x.on(98), 97 * 4 + 13);
        Check.due("13: 99", x.on(99), 97 * 4 + 13 + 23);
        x.pass(98);
        Check.due("13: the last", x.on(99), 23);
        Check.due("11: the last", x.pass(1), 23);
        Check.due("11: over", x.pass(1), 0);
    }

    /** 2 * 798 * 7 a minute, for 99 minutes: WET would be 1106028. */
    private static void theMostWet() {
        NineWindows x = new NineWindows();
        for (int i = 0; i < 7; i++) x.window(3, 0, 3, 4, 9);
        StringBuilder text = new StringBuilder();
        for (int i = 0; i < 8; i++) text.append("wet 99 w<9;");
        Check.due("11: a wet house", Check.house(x, text + "last 99"), 0);
        x.storm(0, 0);
        int minute = 2 * (3 + 8 * 99) * 7;
        Check.due("13: on, 89", x.on(89), 89 * minute);
        Check.due("13: on, to the most", x.on(90), 999999);
        Check.due("15: cost is more", x.round(0), 99 * minute);
        Check.due("27: mean, above", x.mean(0), 99 * minute);
        Check.due("11: pass 89", x.pass(89), 89 * minute);
        Check.due("11: pass to the most", x.pass(9), 999999 - 89 * minute);
        Check.due("11: no more", x.pass(1), 0);
        Check.due("11: wet", x.told(1), 999999);
        x.storm(99, 0);
        Check.due("13: no more", x.on(5), 0);
        Check.due("15: cost goes on", x.round(0), 99 * minute);
        Check.due("21: sides too", x.sides(1), 99 * minute);
    }

    private static void shut() {
        NineWindows x = new NineWindows();
        Check.due("12: none", x.shut(0), -1);
        int[] takes = {3, 6, 3, 3, 6, 3, 3};
        for (int kind = 0; kind < 7; kind++) {
            x = new NineWindows();
            x.window(kind, 0, 2, 1, 3);
            x.stand(1, 4);
            Check.due("12: kind " + kind, x.shut(0), 2 + 3 + takes[kind]);
            Check.due("12: minute", x.told(0), 5 + takes[kind]);
            Check.due("12: she is there", x.told(6) * 10 + x.told(7), 21);
            Check.due("12: it is shut", x.of(0, 5), 1);
            Check.due("12: again", x.shut(0), -3);
            Check.due("12: -1", x.shut(-1), -1);
            Check.due("12: 1", x.shut(1), -1);
        }
    }

    /** While she goes and shuts it, it rains in; two doors slam until the first is shut. */
    private static void shutInTheStorm() {
        NineWindows x = new NineWindows();
        x.window(4, 5, 0, 0, 2);
        x.window(4, 7, 0, 1, 1);
        x.storm(1, 0);
        Check.due("12: 4 minutes", x.shut(0), 4);
        Check.due("12: wet", x.told(1), 3 * (8 + 10));
        Check.due("12: 3 minutes", x.shut(1), 3);
        Check.due("12: wet by one", x.told(1), 54 + 9);
        Check.due("12: none is open", x.told(8), 0);
    }

    private static void on() {
        NineWindows x = new NineWindows();
        x.window(2, 0, 0, 0, 1);
        x.storm(10, 0);
        Check.due("13: -1", x.on(-1), -2);
        Check.due("13: 100", x.on(100), -2);
        Check.due("13: 0", x.on(0), 0);
        Check.due("13: 10", x.on(10), 0);
        Check.due("13: 11", x.on(11), 1);
        Check.due("13: 25", x.on(25), 15);
        Check.due("13: 99", x.on(99), 15);
        Check.due("13: nothing changed", x.told(0) + x.told(1), 0);
    }

    public static void main(String[] args) {
        pass();
        passToTheLastMinute();
        shutInTheLastMinute();
        theLongestStorm();
        theMostWet();
        shut();
        shutInTheStorm();
        on();
        Check.end("MinutesTest");
    }
}
