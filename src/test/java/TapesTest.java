/** Promises 30 to 40: judging, the image, acts, tapes. */
public final class TapesTest {
    private static void judge() {
        NineWindows x = new NineWindows();
        Check.due("30: none to look at", x.judge(0, 0), -5);
        Check.due("30: no tape -1", x.judge(-1, 0), -1);
        Check.due("30: no tape 6", x.judge(6, 0), -1);
        x.tape(1, 3, 4);
        Check.due("30: longs, none to look at", x.judge(1, 0), -12);
        for (int i = 0; i < 3; i++) x.window(0, 0, 0, 0, 1);
        Check.due("30: longs", x.judge(1, -1), -12);
        Check.due("30: nothing", x.judge(0, 0), 100);
        x.tape(0, 4, 4);
        Check.due("30: all open", x.judge(0, 0), -5);
        Check.due("30: from 1", x.judge(0, 1), -5);
        Check.due("30: from 2", x.judge(0, 2), 102);
        Check.due("30: from 3", x.judge(0, 3), 101);
        Check.due("30: from 4", x.judge(0, 4), 100);
        Check.due("30: from -1", x.judge(0, -1), 100);
        Check.due("30: from afar", x.judge(0, Integer.MAX_VALUE), 100);
        Check.due("30: from below", x.judge(0, Integer.MIN_VALUE), 100);
        x.put(1, true);
        Check.due("30: 1 is otherwise", x.judge(0, 0), 1);
        Check.due("30: otherwise ahead of the end", x.judge(0, 2), 1);
        x.item(0, 1, 5);
        Check.due("30: as told", x.judge(0, 0), -5);
        Check.due("30: 0 is otherwise", x.judge(0, 1), 0);
    }

    private static void imageAndUndo() {
        NineWindows x = new NineWindows();
        Check.due("32: none", x.undo(), -3);
        x.window(6, 4, 1, 2, 3);
        x.row(0, 0, 5);
        x.storm(2, 1);
        x.pass(4);
        x.stand(2, 3);
        x.add(0);
        x.see(0, 7);
        x.book(0, 9);
        Check.house(x, "stair 5");
        int[] before = all(x);
        Check.due("31: one", x.image(), 1);
        x.window(0, 0, 0, 0, 1);
        x.row(0, 0, 6);
        x.put(0, true);
        x.pass(5);
        x.put(0, false);
        x.pass(1);
        Check.due("32: it is wetter now", x.told(1) > before[1] ? 1 : 0, 1);
        x.put(0, true);
        x.storm(60, 3);
        x.pass(50);
        x.stand(0, 0);
        x.add(1);
        x.see(1, 8);
        x.book(1, 1);
        Check.house(x, "stair 6;last 3");
        x.feed('w');
        x.tape(0, 2, 1);
        for (int times = 0; times < 2; times++) {
            Check.due("32: one", x.undo(), 1);
            int[] after = all(x);
            for (int i = 0; i < before.length; i++) Check.due("32: all as it was, " + i, after[i], before[i]);
            Check.due("32: the row", x.row(0, 0, 5), 5);
            Check.due("32: no window 1", x.of(1, 0), -1);
            Check.due("32: houses stay", x.count(1), 2);
            Check.due("32: the text stays", x.count(5), 1);
            Check.due("32: tapes stay", x.read(0, 0), 0);
            x.row(0, 0, 1);
            x.window(3, 3, 3, 3, 3);
            x.add(-1);
            x.see(-1, 0);
            x.book(-1, 0);
        }
        Check.due("31: two", x.image(), 2);
        x.add(1);
        Check.due("32: two", x.undo(), 2);
        Check.due("32: the newer image", x.count(2), 0);
    }

    /** All that can be asked of what THE IMAGE keeps. */
    private static int[] all(NineWindows x) {
        int[] a = new int[40];
        int n = 0;
        for (int i = 0; i < 9; i++) a[n++] = x.told(i);
        for (int i = 0; i < 8; i++) a[n++] = x.of(0, i);
        for (int i = 0; i < 3; i++) a[n++] = x.round(i);
        a[n++] = x.count(0);
        for (int i = 2; i < 5; i++) a[n++] = x.count(i);
        a[n++] = x.looked();
        a[n++] = x.from();
        a[n++] = x.on(30);
        return a;
    }

    /** undo() to a time without a house. */
    private static void undoToNoHouse() {
        NineWindows x = new NineWindows();
        Check.due("31: none", x.image(), 0);
        Check.house(x, "stair 9;last 9");
        Check.due("32: none", x.undo(), 0);
        Check.due("32: stair without", x.told(4), 2);
        Check.due("32: last without", x.told(5), 15);
        Check.due("9: the next house", Check.house(x, "stair 8"), 1);
        Check.due("9: it holds", x.told(4), 8);
    }

    private static void acts(int kind, int act, int x, int want, int... bodies) {
        NineWindows n = new NineWindows();
        for (int i = 0; i < 4; i++) n.window(kind, 5, 0, 0, 1);
        String call = "33: act " + act + " of kind " + kind;
        Check.due(call, n.act(3, act, x), want);
        Check.due("36: bodies of " + call, n.count(6), bodies.length);
        for (int i = 0; i < bodies.length; i++) Check.due("34: trace " + i + " of " + call, n.trace(i), bodies[i]);
        Check.due("34: behind the end", n.trace(bodies.length), -1);
        Check.due("34: ahead", n.trace(-1), -1);
        Check.due("34: afar", n.trace(Integer.MAX_VALUE), -1);
        Check.due("33: no act 3", n.act(3, 3, x), 0);
        Check.due("36: no trace then", n.count(6), 0);
        Check.due("34: no trace then", n.trace(0), -1);
        n.act(3, act, x);
        Check.due("33: no window 4", n.act(4, 0, x), 0);
        Check.due("34: no trace then", n.trace(0), -1);
        Check.due("33: no act -1", n.act(3, -1, x), 0);
        Check.due("33: no window -1", n.act(-1, 0, x), 0);
    }

    /** i is 3, v is 5. */
    private static void act() {
        acts(0, 0, 10, 13, 10);
        acts(0, 1, 10, 8, 11, 10);
        acts(0, 2, 10, 16, 12, 11, 10);
        acts(0, 0, Integer.MAX_VALUE, Integer.MIN_VALUE + 2, 10);
        acts(1, 0, 10, 13, 10);
        acts(1, 1, 10, 8 ^ 6, 20, 11, 10);
        acts(1, 2, 10, 28, 12, 20, 11, 10);
        acts(2, 0, 10, 33, 30, 10);
        acts(2, 1, 10, 28, 11, 30, 10);
        acts(2, 2, 10, 56, 12, 11, 30, 10);
        acts(3, 1, 10, 8, 11, 10);
        acts(3, 2, 10, 16 - 1, 40, 12, 11, 10, 11, 10);
        acts(4, 0, 10, -13, 50, 10);
        acts(4, 1, 10, (-14 - 5) ^ 6, 51, 20, 11, 50, 10);
        acts(4, 2, 10, 2 * ((-14 - 5) ^ 6), 12, 51, 20, 11, 50, 10);
        acts(5, 0, 10, 33, 30, 10);
        acts(5, 1, 10, 28, 11, 30, 10);
        acts(5, 2, 10, 2 * (7 * 3 + 3 - 5), 60, 12, 11, 30, 10);
        acts(6, 0, 10, 13 ^ 5, 71, 10);
        acts(6, 1, 10, (13 ^ 5) - 5 + 5, 70, 11, 71, 10, 10);
        acts(6, 2, 10, 2 * 8 + (4 ^ 5) - 5 + 5, 40, 12, 70, 11, 71, 10, 10, 70, 11, 71, 10, 10);
    }

    private static void taken() {
        NineWindows x = new NineWindows();
        Check.due("35: nothing", x.taken(0, 0), -11);
        Check.due("35: bad ahead", x.taken(0, 7), -2);
        Check.due("35: -1", x.taken(0, -1), -2);
        String[] above = {"0", "01", "02", "03", "014", "025", "036"};
        for (int kind = 0; kind < 7; kind++) x.window(kind, 0, 0, 0, 1);
        for (int kind = 0; kind < 7; kind++) {
            for (int k = 0; k < 7; k++) {
                int want = above[kind].indexOf('0' + k) >= 0 ? kind : -12;
                Check.due("35: " + kind + " for " + k, x.taken(kind, k), want);
            }
        }
        Check.due("35: window 7", x.taken(7, 0), -11);
        Check.due("35: window -1", x.taken(-1, 0), -11);
    }

    private static void count() {
        NineWindows x = new NineWindows();
        Check.due("36: -1", x.count(-1), -2);
        Check.due("36: 7", x.count(7), -2);
        for (int i = 0; i < 3; i++) x.window(3, 0, 0, 0, 1);
        Check.house(x, "last 1");
        Check.house(x, "last 2");
        x.add(0);
        for (int i = 0; i < 4; i++) x.see(0, 0);
        for (int i = 0; i < 5; i++) x.book(0, 0);
        for (int i = 0; i < 6; i++) x.feed(i);
        x.act(0, 2, 0);
        int[] want = {3, 2, 1, 4, 5, 6, 6};
        for (int i = 0; i < want.length; i++) Check.due("36: " + i, x.count(i), want[i]);
    }

    private static void tape() {
        NineWindows x = new NineWindows();
        Check.due("37: tape -1", x.tape(-1, 9, 99), -1);
        Check.due("37: tape 6", x.tape(6, 0, 0), -1);
        Check.due("37: sort -2", x.tape(0, -2, 0), -2);
        Check.due("37: sort 5", x.tape(0, 5, -1), -2);
        Check.due("37: 61", x.tape(0, 0, 61), -2);
        Check.due("37: -1", x.tape(0, 0, -1), -14);
        Check.due("37: still nothing", x.item(0, 0, 0), -11);
        Check.due("37: 60", x.tape(0, 3, 60), 1);
        x.item(0, 59, 7);
        Check.due("37: 7", x.read(0, 59), 7);
        Check.due("37: all 0 again", x.tape(0, 3, 60), 1);
        Check.due("37: 0", x.read(0, 59), 0);
        Check.due("37: a row of none", x.tape(0, 2, 0), 1);
        Check.due("37: no place", x.item(0, 0, 1), -13);
        Check.due("37: nothing, whatever n is", x.tape(0, -1, -9), 1);
        Check.due("37: nothing", x.item(0, 0, 1), -11);
        Check.due("37: nothing, whatever n is", x.tape(0, -1, 99), 1);
    }

    private static void itemAndRead() {
        NineWindows x = new NineWindows();
        long v = 0x1234_5678_9abc_def0L;
        long[] want = {(byte) 0xf0, (short) 0xdef0, 0x9abc_def0, v, 1};
        for (int sort = 0; sort < 5; sort++) {
            x.tape(sort, sort, 2);
            Check.due("38: sort " + sort, x.item(sort, 1, v), 1);
            Check.due("39: sort " + sort, x.read(sort, 1), want[sort]);
            Check.due("39: the other", x.read(sort, 0), 0);
            Check.due("38: 0", x.item(sort, 1, 0), 1);
            Check.due("39: 0", x.read(sort, 1), 0);
            Check.due("38: place 2", x.item(sort, 2, 1), -13);
            Check.due("38: place -1", x.item(sort, -1, 1), -13);
            Check.due("39: place 2", x.read(sort, 2), Long.MIN_VALUE);
            Check.due("39: place -1", x.read(sort, -1), Long.MIN_VALUE);
        }
        x.item(4, 0, 1L << 40);
        Check.due("39: not 0 is true", x.read(4, 0), 1);
        Check.due("38: nothing", x.item(5, -1, 0), -11);
        Check.due("38: tape 6", x.item(6, 0, 0), -1);
        Check.due("38: tape -1", x.item(-1, 0, 0), -1);
        Check.due("39: nothing", x.read(5, 0), Long.MIN_VALUE);
        Check.due("39: tape 6", x.read(6, 0), Long.MIN_VALUE);
        Check.due("39: tape -1", x.read(-1, 0), Long.MIN_VALUE);
    }

    private static void shift() {
        NineWindows x = new NineWindows();
        Check.due("40: tape -1", x.shift(-1, 0, 0, 0, 0), -1);
        Check.due("40: tape 6", x.shift(0, 0, 6, 0, 0), -1);
        Check.due("40: nothing", x.shift(0, 0, 1, 0, 0), -11);
        x.tape(0, 2, 5);
        Check.due("40: nothing to come to", x.shift(0, 0, 1, 0, 0), -11);
        Check.due("40: nothing to come from", x.shift(1, 0, 0, 0, 0), -11);
        x.tape(1, 1, 5);
        Check.due("40: unlike", x.shift(0, -1, 1, 0, 0), -12);
        x.tape(1, 2, 3);
        for (int i = 0; i < 5; i++) x.item(0, i, i + 1);
        Check.due("40: forth", x.shift(0, 0, 0, 1, 4), 4);
        due(x, 0, 1, 1, 2, 3, 4);
        Check.due("40: back", x.shift(0, 2, 0, 0, 3), 3);
        due(x, 0, 2, 3, 4, 3, 4);
        Check.due("40: to another", x.shift(0, 1, 1, 1, 2), 2);
        due(x, 1, 0, 3, 4);
        due(x, 0, 2, 3, 4, 3, 4);
        Check.due("40: none, at the end", x.shift(0, 5, 1, 3, 0), 0);
        int[][] places = {{-1, 0, 1}, {0, -1, 1}, {0, 0, -1}, {0, 0, 4}, {4, 0, 2}, {6, 0, 0}, {0, 4, 0}, {0, 3, 1},
            {Integer.MAX_VALUE, 0, 1}, {0, Integer.MAX_VALUE, 1}, {1, 1, Integer.MAX_VALUE},
            {0, 0, Integer.MIN_VALUE}};
        for (int[] p : places) Check.due("40: no place", x.shift(0, p[0], 1, p[1], p[2]), -13);
        due(x, 1, 0, 3, 4);
    }

    private static void due(NineWindows x, int tape, int... want) {
        for (int i = 0; i < want.length; i++) Check.due("40: item " + i, x.read(tape, i), want[i]);
        Check.due("40: behind the end", x.read(tape, want.length), Long.MIN_VALUE);
    }

    public static void main(String[] args) {
        judge();
        imageAndUndo();
        undoToNoHouse();
        act();
        taken();
        count();
        tape();
        itemAndRead();
        shift();
        Check.end("TapesTest");
    }
}
