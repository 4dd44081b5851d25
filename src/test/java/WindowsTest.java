/** Promises 1 to 10: a new object, windows, houses, storms. The answers are worked out by hand. */
public final class WindowsTest {
    private static void aNewObject() {
        NineWindows x = new NineWindows();
        int[] told = {0, 0, 20, 0, 2, 15, 0, 0, 0};
        for (int i = 0; i < told.length; i++) Check.due("1: told " + i, x.told(i), told[i]);
        for (int i = 0; i < 7; i++) Check.due("1: count " + i, x.count(i), 0);
        Check.due("1: no image", x.undo(), NineWindows.STATE);
        Check.due("1: no tape", x.read(0, 0), NineWindows.NO);
        Check.due("1: NONE", NineWindows.NONE, -1);
        Check.due("1: BAD", NineWindows.BAD, -2);
        Check.due("1: STATE", NineWindows.STATE, -3);
        Check.due("1: FULL", NineWindows.FULL, -4);
        Check.due("1: NO", NineWindows.NO, Long.MIN_VALUE);
    }

    private static void window() {
        NineWindows x = new NineWindows();
        Check.due("2: kind -1", x.window(-1, 10, 0, 0, 1), -1);
        Check.due("2: kind 7", x.window(7, 0, 0, 0, 1), -1);
        int[][] bad = {{-1, 0, 0, 1}, {10, 0, 0, 1}, {0, -1, 0, 1}, {0, 4, 0, 1}, {0, 0, -1, 1}, {0, 0, 5, 1},
            {0, 0, 0, 0}, {0, 0, 0, 10}};
        for (int[] b : bad) Check.due("2: bad", x.window(0, b[0], b[1], b[2], b[3]), -2);
        Check.due("2: none came", x.count(0), 0);
        for (int i = 0; i < 7; i++) Check.due("2: number", x.window(i, 9, 3, 4, 9), i);
        Check.due("2: full", x.window(0, 0, 0, 0, 1), -4);
        Check.due("2: bad ahead of full", x.window(0, 10, 0, 0, 1), -2);
        Check.due("2: none ahead of full", x.window(7, 0, 0, 0, 1), -1);
        Check.due("2: seven", x.count(0), 7);
        Check.due("2: all open", x.told(8), 127);
    }

    private static void of() {
        NineWindows x = new NineWindows();
        x.window(4, 7, 2, 3, 5);
        int[] want = {4, 7, 2, 3, 5, 0, 2 * 2 + 3, 0};
        for (int i = 0; i < want.length; i++) Check.due("3: of 0 " + i, x.of(0, i), want[i]);
        Check.due("3: no what 8", x.of(0, 8), -1);
        Check.due("3: no what -1", x.of(0, -1), -1);
        Check.due("3: no window 1", x.of(1, 0), -1);
        Check.due("3: no window -1", x.of(-1, 0), -1);
        x.stand(3, 1);
        Check.due("3: way down", x.of(0, 6), 2 * 1 + 2);
        Check.house(x, "stair 0");
        Check.due("3: way without stairs", x.of(0, 6), 2);
        x.storm(0, 0);
        Check.due("3: rain on a door alone", x.of(0, 7), 3);
        x.window(4, 2, 0, 0, 1);
        Check.due("3: it slams", x.of(0, 7), 3 + 7);
        Check.due("3: the other slams", x.of(1, 7), 3 + 2);
        x.put(1, true);
        Check.due("3: the other is shut", x.of(0, 7), 3);
        Check.due("3: and dry", x.of(1, 7), 0);
        Check.due("3: and shut", x.of(1, 5), 1);
    }

    private static void harmByKind() {
        NineWindows x = new NineWindows();
        for (int kind = 0; kind < 7; kind++) x.window(kind, 6, 0, 0, 1);
        Check.house(x, "wet 4 w<9");
        x.row(6, 1, 5);
        x.storm(1, 2);
        x.pass(1);
        int[] want = {7, 7, 3, 14, 7, 3, 14 + 5};
        for (int i = 0; i < 7; i++) Check.due("3: harm of kind " + i, x.of(i, 7), want[i]);
        x.storm(1, 1);
        Check.due("3: lee from another side", x.of(5, 7), 0);
        x.storm(0, 2);
        x.pass(14);
        Check.due("3: minute 15, past the storm", x.of(0, 7), 0);
        x.storm(1, 2);
        Check.due("3: minute 15, its last", x.of(0, 7), 7);
        Check.due("3: minute 15, part 3", x.of(6, 7), 14);
        x.storm(15, 2);
        Check.due("3: minute 15, its first", x.of(0, 7), 7);
        x.storm(16, 2);
        Check.due("3: ahead of it", x.of(0, 7), 0);
    }

    private static void put() {
        NineWindows x = new NineWindows();
        Check.due("4: none", x.put(0, true), -1);
        x.window(0, 0, 3, 3, 9);
        Check.due("4: was open", x.put(0, true), 0);
        Check.due("4: was shut", x.put(0, true), 1);
        Check.due("4: is shut", x.of(0, 5), 1);
        Check.due("4: no minutes", x.told(0), 0);
        Check.due("4: she did not go", x.told(6), 0);
        Check.due("4: was shut still", x.put(0, false), 1);
        Check.due("4: open", x.told(8), 1);
        Check.due("4: -1", x.put(-1, true), -1);
    }

    private static void row() {
        NineWindows x = new NineWindows();
        x.window(6, 0, 0, 0, 1);
        x.window(3, 0, 0, 0, 1);
        Check.due("5: was 0", x.row(0, 3, 9), 0);
        Check.due("5: was 9", x.row(0, 3, 4), 9);
        Check.due("5: another part", x.row(0, 0, 1), 0);
        Check.due("5: no window", x.row(2, 0, 10), -1);
        Check.due("5: no part 4", x.row(0, 4, 10), -1);
        Check.due("5: no part -1", x.row(0, -1, 0), -1);
        Check.due("5: n 10", x.row(1, 0, 10), -2);
        Check.due("5: n -1", x.row(0, 0, -1), -2);
        Check.due("5: a garret", x.row(1, 0, 1), -3);
        x.storm(3, 0);
        x.pass(3);
        Check.due("5: it is wetter", x.of(0, 7), 6 + 4);
        Check.due("5: over four minutes", x.on(4), 4 * (6 + 6) + 4 + 1);
    }

    private static void storm() {
        NineWindows x = new NineWindows();
        Check.due("6: was 20", x.storm(99, 3), 20);
        Check.due("6: no side 4", x.storm(100, 4), -1);
        Check.due("6: no side -1", x.storm(0, -1), -1);
        Check.due("6: comes 100", x.storm(100, 0), -2);
        Check.due("6: comes -1", x.storm(-1, 0), -2);
        Check.due("6: side stays", x.told(3), 3);
        Check.due("6: comes stays", x.told(2), 99);
        Check.due("6: was 99", x.storm(0, 0), 99);
    }

    private static void stand() {
        NineWindows x = new NineWindows();
        Check.due("7: she stands", x.stand(3, 4), 1);
        Check.due("7: floor -1", x.stand(-1, 0), -2);
        Check.due("7: floor 4", x.stand(4, 0), -2);
        Check.due("7: room -1", x.stand(0, -1), -2);
        Check.due("7: room 5", x.stand(0, 5), -2);
        Check.due("7: floor", x.told(6), 3);
        Check.due("7: room", x.told(7), 4);
    }

    private static void feed() {
        NineWindows x = new NineWindows();
        Check.due("8: -1", x.feed(-1), -2);
        Check.due("8: 128", x.feed(128), -2);
        Check.due("8: 0", x.feed(0), 1);
        for (int i = 2; i <= 100; i++) Check.due("8: more", x.feed(127), i);
        Check.due("8: full", x.feed(0), -4);
        Check.due("8: bad ahead of full", x.feed(128), -2);
        Check.due("8: a hundred", x.count(5), 100);
        Check.due("8: none begins with 0", x.house(), -10);
        Check.due("8: empty then", x.count(5), 0);
        Check.due("8: one", x.feed(7), 1);
    }

    private static void told() {
        NineWindows x = new NineWindows();
        x.window(0, 0, 1, 2, 3);
        x.window(0, 0, 1, 2, 3);
        x.storm(5, 2);
        x.shut(0);
        int[] want = {7, 12, 5, 2, 2, 15, 1, 2, 2};
        for (int i = 0; i < want.length; i++) Check.due("10: told " + i, x.told(i), want[i]);
        Check.due("10: 9", x.told(9), -1);
        Check.due("10: -1", x.told(-1), -1);
    }

    public static void main(String[] args) {
        aNewObject();
        window();
        of();
        harmByKind();
        put();
        row();
        storm();
        stand();
        feed();
        told();
        Check.end("WindowsTest");
    }
}
