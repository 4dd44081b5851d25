/**
 * "Terms" 3, THE IMAGE, ACTS, and promises 30 to 40: a test of its own for each sentence that names an edge.
 */
public final class HostEdgesTest {
    private static final long NO = Long.MIN_VALUE;
    private static final int MIN = Integer.MIN_VALUE, MAX = Integer.MAX_VALUE;

    /** "-5: none, or there is none to look at": without WINDOWS, whatever the place and the row. */
    private static void judgeNoWindows() {
        NineWindows x = new NineWindows();
        for (int tape = 0; tape < 6; tape++) Check.due("nothing held", x.judge(tape, 0), -5);
        x.tape(0, 4, 0);
        x.tape(1, 4, 3);
        for (int i : new int[] {0, 2, 3, 60, -1, MIN, MAX}) {
            Check.due("a row of none, from " + i, x.judge(0, i), -5);
            Check.due("a row of three, from " + i, x.judge(1, i), -5);
            Check.due("no tape", x.judge(6, i), -1);
            Check.due("no tape", x.judge(-1, i), -1);
        }
        for (int sort = 0; sort < 4; sort++) {
            x.tape(2, sort, 3);
            Check.due("no row of booleans, sort " + sort, x.judge(2, 0), -12);
        }
    }

    /** "100 and how many were looked at, if the row ends ahead of that (or the place is below 0, or .. nothing)". */
    private static void judgeAtTheEnd() {
        for (int windows = 1; windows <= 7; windows++) {
            NineWindows x = new NineWindows();
            for (int w = 0; w < windows; w++) x.window(0, 0, 0, 0, 1);
            for (int length = 0; length <= 8; length++) {
                x.tape(5, 4, length);
                for (int i = 0; i <= length + 1; i++) {
                    int there = Math.max(0, length - i);
                    Check.due(windows + " from " + i + " of " + length, x.judge(5, i), there >= windows ? -5 : 100 + there);
                }
                if (length > 4) break;
            }
            x.tape(5, 4, 60);
            Check.due("the last place that will do", x.judge(5, 60 - windows), -5);
            Check.due("one further", x.judge(5, 61 - windows), 99 + windows);
            Check.due("the last place", x.judge(5, 59), windows == 1 ? -5 : 101);
            Check.due("the end", x.judge(5, 60), 100);
            for (int i : new int[] {-1, -60, MIN, MAX}) Check.due("no place " + i, x.judge(5, i), 100);
            x.tape(5, -1, 0);
            for (int i : new int[] {0, -1, MIN, MAX}) Check.due("nothing held", x.judge(5, i), 100);
            x.tape(5, 3, 0);
            for (int i : new int[] {0, -1, MIN, MAX}) Check.due("longs, be there none", x.judge(5, i), -12);
        }
    }

    /** "the first that is otherwise": each of the seven, in both ways, ahead of the end of the row or not. */
    private static void judgeOtherwise() {
        for (int other = 0; other < 7; other++) {
            NineWindows x = new NineWindows();
            for (int w = 0; w < 7; w++) x.window(0, 0, 0, 0, 1);
            x.tape(0, 4, 9);
            x.item(0, 2 + other, 1);
            Check.due("told shut, but open", x.judge(0, 2), other);
            Check.due("from one further", x.judge(0, 3), other == 0 ? 106 : other - 1);
            x.put(other, true);
            Check.due("as told", x.judge(0, 2), -5);
            x.item(0, 2 + other, 0);
            Check.due("told open, but shut", x.judge(0, 2), other);
            if (other == 6) continue;
            x.put(6, true);
            Check.due("the first of two", x.judge(0, 2), other);
        }
    }

    /** "STATE: there is none"; an image of no WINDOWS; SHUT and OPEN, and where SHE is, as they were. */
    private static void imageAndUndo() {
        NineWindows x = new NineWindows();
        Check.due("none", x.undo(), -3);
        x.window(0, 0, 0, 0, 1);
        Check.due("none still", x.undo(), -3);
        Check.due("its window stays", x.count(0), 1);
        Check.due("of one", x.image(), 1);
        x = new NineWindows();
        Check.due("of none", x.image(), 0);
        for (int w = 0; w < 7; w++) x.window(0, 0, 0, 0, 1);
        Check.due("back to none", x.undo(), 0);
        Check.due("none", x.count(0), 0);
        for (int w = 0; w < 7; w++) Check.due("seven come again", x.window(6, 0, 0, 0, 1), w);
        for (int w = 0; w < 7; w++) x.put(w, w % 2 == 0);
        Check.due("of seven", x.image(), 7);
        for (int w = 0; w < 7; w++) x.put(w, w % 3 == 0);
        Check.due("back to seven", x.undo(), 7);
        Check.due("shut as they were", x.told(8), 2 + 8 + 32);
        Check.due("full", x.window(0, 0, 0, 0, 1), -4);
    }

    /** "which HOUSE holds": RAIN, asked before and behind, is that HOUSE's; "THE ROUND, SEEN, the BOOK" full and empty. */
    private static void undoToAHouse() {
        NineWindows x = new NineWindows();
        x.window(0, 0, 0, 0, 1);
        x.storm(0, 0);
        x.image();
        Check.due("none", x.on(1), 3);
        Check.house(x, "wet 4 w=0;last 2;stair 7");
        Check.due("the first house", x.on(99), 14);
        x.undo();
        Check.due("none again", x.on(99), 45);
        Check.due("stair without", x.told(4), 2);
        Check.house(x, "wet 5 w=0;last 1");
        Check.due("the second house", x.on(99), 8);
        x.image();
        Check.house(x, "wet 6 w=0;last 3");
        Check.due("the third house", x.on(99), 27);
        x.undo();
        Check.due("the second house again", x.on(99), 8);
        Check.due("last of the second", x.told(5), 1);
        Check.due("three houses", x.count(1), 3);
        Check.due("the next one is the fourth", Check.house(x, "last 4"), 3);
    }

    private static void undoOfWhatIsTold() {
        NineWindows x = new NineWindows();
        for (int w = 0; w < 7; w++) x.window(0, 0, 0, 0, 1);
        for (int w = 0; w < 7; w++) x.add(6 - w);
        for (int n = 0; n < 6; n++) x.see(n, 45 - n);
        for (int n = 0; n < 8; n++) x.book(n % 7, 28 - n);
        int end = x.round(1);
        int looked = x.looked();
        x.image();
        x.add(-1);
        x.see(-1, 0);
        x.book(-1, 0);
        x.add(3);
        x.see(2, 45);
        x.book(1, 9);
        x.undo();
        Check.due("seven of the round", x.count(2), 7);
        Check.due("six seen", x.count(3), 6);
        Check.due("eight of the book", x.count(4), 8);
        Check.due("end", x.round(1), end);
        Check.due("from", x.from(), 0);
        Check.due("looked", x.looked(), looked);
        Check.due("full", x.see(0, 0) + x.book(0, 0), -8);
        x.add(-1);
        x.see(-1, 0);
        x.book(-1, 0);
        x.image();
        x.add(3);
        x.see(2, 45);
        x.book(1, 9);
        x.undo();
        for (int what = 2; what < 5; what++) Check.due("none again, " + what, x.count(what), 0);
    }

    private static NineWindows sevenOf(int kind, int v) {
        NineWindows x = new NineWindows();
        for (int w = 0; w < 7; w++) x.window(kind, v, 0, 0, 1);
        return x;
    }

    /** "ACTS of a WINDOW with x (wrapping)": each body's own arithmetic, at both ends; i is 6, v is 9. */
    private static void actsWrap() {
        int[] ends = {MIN, MIN + 1, MIN + 5, MIN + 8, -1, 0, 1, 715827882, 715827883, 1073741823, 1073741824, MAX - 6, MAX - 5, MAX};
        for (int n : ends) {
            NineWindows x = sevenOf(0, 9);
            Check.due("10: " + n, x.act(6, 0, n), n + 6);
            Check.due("11: " + n, x.act(6, 1, n), n - 3);
            Check.due("12: " + n, x.act(6, 2, n), (n - 3) * 2);
            x = sevenOf(1, 9);
            Check.due("20: " + n, x.act(6, 1, n), n - 3 ^ 6);
            Check.due("12, 20: " + n, x.act(6, 2, n), (n - 3 ^ 6) * 2);
            x = sevenOf(2, 9);
            Check.due("30: " + n, x.act(6, 0, n), n * 3 + 6);
            Check.due("11, 30: " + n, x.act(6, 1, n), n * 3 - 3);
            x = sevenOf(3, 9);
            Check.due("40: " + n, x.act(6, 2, n), (n - 3) * 2 - 2);
            x = sevenOf(4, 9);
            Check.due("50: " + n, x.act(6, 0, n), -(n + 6));
            Check.due("51: " + n, x.act(6, 1, n), -(n + 7) - 9 ^ 6);
            x = sevenOf(5, 9);
            Check.due("60: " + n, x.act(6, 2, n), ((n - 6) * 3 - 3) * 2);
            x = sevenOf(6, 9);
            Check.due("71: " + n, x.act(6, 0, n), n + 6 ^ 9);
            Check.due("70: " + n, x.act(6, 1, n), (n + 6 ^ 9) - 9 + 8);
            Check.due("40, 70: " + n, x.act(6, 2, n), ((n + 6 ^ 9) - 1) * 2 + (7 ^ 9) - 1);
        }
    }

    /** "0, and no TRACE then: no such WINDOW, act"; THE TRACE is of "the latest act()", longer or shorter. */
    private static void theTrace() {
        NineWindows x = new NineWindows();
        Check.due("none at first", x.trace(0), -1);
        Check.due("no window", x.act(0, 0, 5), 0);
        Check.due("none ran", x.count(6), 0);
        x.window(6, 1, 0, 0, 1);
        int[] bodies = {40, 12, 70, 11, 71, 10, 10, 70, 11, 71, 10, 10};
        int[][] none = {{1, 0}, {-1, 0}, {7, 0}, {MIN, 0}, {MAX, 0}, {0, -1}, {0, 3}, {0, MIN}, {0, MAX}};
        for (int[] n : none) {
            x.act(0, 2, 5);
            Check.due("twelve ran", x.count(6), bodies.length);
            for (int i = 0; i < bodies.length; i++) Check.due("trace " + i, x.trace(i), bodies[i]);
            for (int i : new int[] {-1, MIN, bodies.length, 19, 20, MAX}) Check.due("no trace " + i, x.trace(i), -1);
            Check.due("no such", x.act(n[0], n[1], 5), 0);
            Check.due("none ran", x.count(6), 0);
            Check.due("no trace then", x.trace(0), -1);
        }
        x.act(0, 2, 5);
        x.act(0, 0, 5);
        Check.due("two ran", x.count(6), 2);
        Check.due("the first", x.trace(0), 71);
        Check.due("the second", x.trace(1), 10);
        Check.due("none of the act before", x.trace(2), -1);
    }

    /** "How many .. BAD": each at none and, where there is one, at its most. */
    private static void counts() {
        NineWindows x = new NineWindows();
        for (int what = 0; what < 7; what++) Check.due("none, " + what, x.count(what), 0);
        for (int what : new int[] {-1, 7, MIN, MAX}) Check.due("no " + what, x.count(what), -2);
        for (int w = 0; w < 7; w++) x.window(0, 0, 0, 0, 1);
        for (int n = 0; n < 6; n++) Check.house(x, "last 9");
        for (int w = 0; w < 7; w++) x.add(w);
        for (int n = 0; n < 6; n++) x.see(0, 0);
        for (int n = 0; n < 8; n++) x.book(0, 0);
        for (int n = 0; n < 100; n++) x.feed(n);
        x.act(0, 2, 0);
        int[] most = {7, 6, 7, 6, 8, 100, 3};
        for (int what = 0; what < 7; what++) Check.due("the most, " + what, x.count(what), most[what]);
    }

    /** "TAPES 0 .. 5 hold nothing (at first), or a row"; "a row of n (0 .. 60) of a sort, all 0". */
    private static void tapes() {
        NineWindows x = new NineWindows();
        for (int tape = 0; tape < 6; tape++) {
            Check.due("nothing at first", x.item(tape, 0, 1), -11);
            Check.due("nothing to read", x.read(tape, 0), NO);
        }
        for (int sort = 0; sort < 5; sort++) {
            Check.due("none", x.tape(sort, sort, 0), 1);
            Check.due("no place of none", x.item(sort, 0, 1), -13);
            Check.due("no place to read", x.read(sort, 0), NO);
            Check.due("sixty", x.tape(sort, sort, 60), 1);
            Check.due("the first", x.item(sort, 0, 1), 1);
            Check.due("the last", x.item(sort, 59, 1), 1);
            Check.due("no sixtieth", x.item(sort, 60, 1), -13);
            Check.due("no such to read", x.read(sort, 60), NO);
            Check.due("-1", x.item(sort, -1, 1), -13);
            Check.due("61", x.tape(sort, sort, 61), -2);
            Check.due("far above", x.tape(sort, sort, MAX), -2);
            Check.due("below 0", x.tape(sort, sort, -1), -14);
            Check.due("far below", x.tape(sort, sort, MIN), -14);
            Check.due("as it was", x.read(sort, 0) + x.read(sort, 59), 2);
            Check.due("again", x.tape(sort, sort, 60), 1);
            for (int i = 0; i < 60; i += 59) Check.due("all 0", x.read(sort, i), 0);
        }
        Check.due("no tape 6", x.tape(6, 0, 0), -1);
        Check.due("no tape -1", x.tape(-1, 0, 0), -1);
        for (int n : new int[] {MIN, -1, 0, 60, 61, MAX}) {
            x.tape(0, 0, 1);
            Check.due("n does not matter: " + n, x.tape(0, -1, n), 1);
            Check.due("nothing", x.item(0, 0, 1), -11);
            Check.due("nothing again", x.tape(0, -1, n), 1);
            for (int sort : new int[] {-2, 5, MIN, MAX}) Check.due("no sort " + sort, x.tape(0, sort, n), -2);
        }
    }

    /** A shorter row, another sort: nothing of the one before is left, and nothing of it comes again. */
    private static void aRowOfAnother() {
        NineWindows x = new NineWindows();
        x.tape(0, 3, 60);
        for (int i = 0; i < 60; i++) x.item(0, i, NO);
        x.tape(0, 4, 2);
        Check.due("0", x.read(0, 0), 0);
        Check.due("0", x.read(0, 1), 0);
        Check.due("behind its end", x.read(0, 2), NO);
        x.tape(0, 3, 60);
        for (int i = 0; i < 60; i++) Check.due("all 0", x.read(0, i), 0);
    }

    /** "its lowest bits, as many as an item has; booleans: whether v is not 0". */
    private static void itemsWrap() {
        NineWindows x = new NineWindows();
        for (int sort = 0; sort < 5; sort++) x.tape(sort, sort, 1);
        long[] values = {0, 1, -1, 2, 127, 128, -128, -129, 255, 256, 32767, 32768, -32768, -32769, 65535, 65536,
            MAX, MAX + 1L, MIN, MIN - 1L, 1L << 32, (1L << 32) - 1, Long.MAX_VALUE, Long.MIN_VALUE + 1, Long.MIN_VALUE};
        for (long v : values) {
            long[] want = {(byte) v, (short) v, (int) v, v, v == 0 ? 0 : 1};
            for (int sort = 0; sort < 5; sort++) {
                Check.due("item", x.item(sort, 0, v), 1);
                Check.due("sort " + sort + ": " + v, x.read(sort, 0), want[sort]);
            }
        }
        Check.due("128 as a byte", x.item(0, 0, 128) * 1000 + x.read(0, 0), 1000 - 128);
        Check.due("32768 as a short", x.item(1, 0, 32768) * 100000L + x.read(1, 0), 100000 - 32768);
        Check.due("256 is true", x.item(4, 0, 256) * 10 + x.read(4, 0), 11);
        Check.due("0 is false", x.item(4, 0, 0) * 10 + x.read(4, 0), 10);
    }

    private static void row(NineWindows x, int tape, long... want) {
        for (int i = 0; i < want.length; i++) Check.due("item " + i + " of tape " + tape, x.read(tape, i), want[i]);
        Check.due("the end of tape " + tape, x.read(tape, want.length), NO);
    }

    /** "come to another one (or the same) .., as they all were before": over one another, by 1 to 4 places, both ways. */
    private static void shiftOverItself() {
        for (int sort = 0; sort < 5; sort++) {
            for (int i = 0; i < 5; i++) {
                for (int j = 0; j < 5; j++) {
                    int n = 5 - Math.max(i, j);
                    NineWindows x = new NineWindows();
                    x.tape(0, sort, 5);
                    long[] want = new long[5];
                    for (int p = 0; p < 5; p++) {
                        want[p] = sort == 4 ? 11 >> p & 1 : p + 1;
                        x.item(0, p, want[p]);
                    }
                    long[] before = want.clone();
                    for (int p = 0; p < n; p++) want[j + p] = before[i + p];
                    Check.due("shift " + i + " to " + j, x.shift(0, i, 0, j, n), n);
                    row(x, 0, want);
                }
            }
        }
    }

    /** "PLACE: n, i or j is below 0, or beyond either's end": just at each end, and one further. */
    private static void shiftAtTheEnds() {
        NineWindows x = new NineWindows();
        x.tape(0, 3, 4);
        x.tape(5, 3, 2);
        for (int i = 0; i < 4; i++) x.item(0, i, 10 + i);
        int[][] places = {{-1, 0, 0}, {0, -1, 0}, {0, 0, -1}, {5, 0, 0}, {0, 3, 0}, {4, 0, 1}, {3, 0, 2}, {0, 2, 1}, {0, 1, 2},
            {0, 0, 3}, {MAX, 0, 0}, {0, MAX, 0}, {0, 0, MAX}, {MIN, 0, 0}, {0, MIN, 0}, {0, 0, MIN}, {MAX, MAX, MAX},
            {MIN, MIN, MIN}, {1, 0, MAX}, {MAX, 0, 1}, {2, 1, MAX - 1}, {-1, -1, 1}};
        for (int[] p : places) Check.due("no place " + p[0] + " " + p[1] + " " + p[2], x.shift(0, p[0], 5, p[1], p[2]), -13);
        row(x, 5, 0, 0);
        Check.due("none, at both ends", x.shift(0, 4, 5, 2, 0), 0);
        row(x, 5, 0, 0);
        Check.due("the last to the last", x.shift(0, 3, 5, 1, 1), 1);
        row(x, 5, 0, 13);
        Check.due("as many as it holds", x.shift(0, 1, 5, 0, 2), 2);
        row(x, 5, 11, 12);
        row(x, 0, 10, 11, 12, 13);
        Check.due("back", x.shift(5, 0, 0, 2, 2), 2);
        row(x, 0, 10, 11, 11, 12);
        Check.due("more than is there", x.shift(5, 0, 0, 0, 3), -13);
        x.tape(1, 3, 0);
        Check.due("none from none", x.shift(1, 0, 1, 0, 0), 0);
        Check.due("one from none", x.shift(1, 0, 0, 0, 1), -13);
        Check.due("one to none", x.shift(0, 0, 1, 0, 1), -13);
    }

    /** "CAST: of unlike sorts": each against each. */
    private static void shiftOfSorts() {
        NineWindows x = new NineWindows();
        for (int sort = 0; sort < 5; sort++) x.tape(sort, sort, 2);
        for (int a = 0; a < 6; a++) {
            for (int b = 0; b < 6; b++) {
                int want = a == 5 || b == 5 ? -11 : a == b ? 1 : -12;
                Check.due("from sort " + a + " to sort " + b, x.shift(a, 0, b, 1, 1), want);
                Check.due("no place", x.shift(a, 2, b, 1, 1), want == 1 ? -13 : want);
            }
            Check.due("no tape 6", x.shift(a, 0, 6, 0, 0), -1);
            Check.due("no tape -1", x.shift(-1, 0, a, 0, 0), -1);
        }
    }

    /** "A WINDOW taken for one of KIND k (0 .. 6), or one under that: its KIND." */
    private static void taken() {
        int[] above = {0, 0, 0, 0, 1, 2, 3};
        NineWindows x = new NineWindows();
        for (int k = 0; k < 7; k++) Check.due("no window yet", x.taken(0, k), -11);
        for (int kind = 0; kind < 7; kind++) x.window(kind, 0, 0, 0, 1);
        for (int kind = 0; kind < 7; kind++) {
            for (int k = 0; k < 7; k++) {
                boolean is = k == kind || k == above[kind] || k == 0;
                Check.due(kind + " taken for " + k, x.taken(kind, k), is ? kind : -12);
            }
            for (int k : new int[] {-1, 7, MIN, MAX}) Check.due("no kind " + k, x.taken(kind, k), -2);
        }
        for (int w : new int[] {-1, 7, MIN, MAX}) {
            Check.due("no window " + w, x.taken(w, 0), -11);
            Check.due("no kind ahead of no window", x.taken(w, 7), -2);
        }
    }

    public static void main(String[] args) {
        judgeNoWindows();
        judgeAtTheEnd();
        judgeOtherwise();
        imageAndUndo();
        undoToAHouse();
        undoOfWhatIsTold();
        actsWrap();
        theTrace();
        counts();
        tapes();
        aRowOfAnother();
        itemsWrap();
        shiftOverItself();
        shiftAtTheEnds();
        shiftOfSorts();
        taken();
        Check.end("HostEdgesTest");
    }
}
