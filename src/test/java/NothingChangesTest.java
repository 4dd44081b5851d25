import java.util.ArrayList;
import java.util.List;
import java.util.function.Supplier;
import java.util.function.ToLongFunction;

/**
 * "What is answered so changes nothing; what is asked changes nothing." Each refused call and each asking one,
 * on an object that holds something of all there is: all that can be asked is behind it as it is without it.
 */
public final class NothingChangesTest {
    private static final int MIN = Integer.MIN_VALUE, MAX = Integer.MAX_VALUE;
    private static final int NONE = -1, BAD = -2, STATE = -3, FULL = -4, NOTHING = -11, CAST = -12, PLACE = -13, SIZE = -14;

    private final String name;
    private final Supplier<NineWindows> made;
    private final long[] without;
    private final List<String> calls = new ArrayList<>();

    private NothingChangesTest(String name, Supplier<NineWindows> made) {
        this.name = name;
        this.made = made;
        without = Rich.all(made.get());
    }

    private void isNothing(String call, ToLongFunction<NineWindows> c) {
        NineWindows x = made.get();
        long answer = c.applyAsLong(x);
        calls.add(call);
        Check.due(name + ", " + call + " twice", c.applyAsLong(x), answer);
        long[] with = Rich.all(x);
        for (int i = 0; i < without.length; i++) {
            Check.due(name + ", behind " + call + ", that is asked as " + i, with[i], without[i]);
        }
    }

    private void refused(String call, long want, ToLongFunction<NineWindows> c) {
        Check.due(name + ", " + call, c.applyAsLong(made.get()), want);
        isNothing(call, c);
    }

    private void windowsAndStorms() {
        for (int k : new int[] {-1, 7, MIN, MAX}) refused("window: kind " + k, NONE, x -> x.window(k, 0, 0, 0, 1));
        for (int v : new int[] {-1, 10, MIN, MAX}) refused("window: v " + v, BAD, x -> x.window(0, v, 0, 0, 1));
        for (int f : new int[] {-1, 4, MIN, MAX}) refused("window: floor " + f, BAD, x -> x.window(0, 0, f, 0, 1));
        for (int r : new int[] {-1, 5, MIN, MAX}) refused("window: room " + r, BAD, x -> x.window(0, 0, 0, r, 1));
        for (int t : new int[] {0, 10, -1, MIN, MAX}) refused("window: takes " + t, BAD, x -> x.window(0, 0, 0, 0, t));
        for (int p : new int[] {-1, 4, MIN, MAX}) {
            refused("row: part " + p, NONE, x -> x.row(0, p, 1));
            refused("storm: side " + p, NONE, x -> x.storm(0, p));
            refused("stand: floor " + p, BAD, x -> x.stand(p, 0));
        }
        for (int n : new int[] {-1, 10, MIN, MAX}) refused("row: n " + n, BAD, x -> x.row(0, 0, n));
        for (int w = 1; w < 6; w++) {
            int other = w;
            refused("row: another kind " + w, STATE, x -> x.row(other, 0, 1));
        }
        for (int c : new int[] {-1, 100, MIN, MAX}) refused("storm: comes " + c, BAD, x -> x.storm(c, 0));
        for (int r : new int[] {-1, 5, MIN, MAX}) refused("stand: room " + r, BAD, x -> x.stand(0, r));
        for (int s : new int[] {-1, 128, MIN, MAX}) refused("feed " + s, BAD, x -> x.feed(s));
    }

    private void noWindow() {
        for (int w : new int[] {7, -2, MIN, MAX, -1}) {
            refused("of " + w, NONE, x -> x.of(w, 0));
            refused("put " + w, NONE, x -> x.put(w, true));
            refused("row " + w, NONE, x -> x.row(w, 0, 1));
            refused("shut " + w, NONE, x -> x.shut(w));
            refused("worth " + w, NONE, x -> x.worth(w));
            refused("taken " + w, NOTHING, x -> x.taken(w, 0));
            if (w == -1) continue;
            refused("add " + w, NONE, x -> x.add(w));
            refused("see " + w, NONE, x -> x.see(w, 0));
            refused("book " + w, NONE, x -> x.book(w, 0));
        }
    }

    private void minutesAndRounds() {
        for (int n : new int[] {-1, 100, MIN, MAX}) {
            refused("pass " + n, BAD, x -> x.pass(n));
            refused("on " + n, BAD, x -> x.on(n));
        }
        refused("shut a shut one", STATE, x -> x.shut(5));
        for (int w : new int[] {4, 5, 0}) refused("add what is there: " + w, BAD, x -> x.add(w));
        for (int q : new int[] {-1, 100000, MIN, MAX}) {
            refused("late " + q, BAD, x -> x.late(q));
            refused("odds " + q, Long.MIN_VALUE, x -> x.odds(q, 0));
        }
        for (int h : new int[] {-1, 10000, MIN, MAX}) {
            refused("see: harm " + h, BAD, x -> x.see(0, h));
            refused("book: minute " + h, BAD, x -> x.book(0, h));
        }
        for (int k : new int[] {-1, 7, MIN, MAX}) refused("taken: k " + k, BAD, x -> x.taken(0, k));
        refused("taken: another kind", CAST, x -> x.taken(0, 4));
    }

    private void whatAndPart() {
        for (int what : new int[] {-1, MIN, MAX, 9}) {
            refused("of: what " + what, NONE, x -> x.of(0, what));
            refused("told " + what, NONE, x -> x.told(what));
            refused("round " + what, NONE, x -> x.round(what));
            refused("two " + what, NONE, x -> x.two(what));
            refused("sides " + what, NONE, x -> x.sides(what));
            refused("begin " + what, NONE, x -> x.begin(what));
            refused("count " + what, BAD, x -> x.count(what));
            refused("odds: part " + what, Long.MIN_VALUE, x -> x.odds(0, what));
            refused("mean " + what, Long.MIN_VALUE, x -> x.mean(what));
            if (what != 9) refused("trace " + what, NONE, x -> x.trace(what));
        }
        refused("of: what 8", NONE, x -> x.of(0, 8));
        refused("round 3", NONE, x -> x.round(3));
        refused("two 2", NONE, x -> x.two(2));
        refused("sides 2", NONE, x -> x.sides(2));
        refused("begin 2", NONE, x -> x.begin(2));
        refused("count 7", BAD, x -> x.count(7));
        refused("odds: part 2", Long.MIN_VALUE, x -> x.odds(0, 2));
        refused("mean 2", Long.MIN_VALUE, x -> x.mean(2));
        for (int k : new int[] {-2, 5, MIN, MAX}) refused("best " + k, NONE, x -> x.best(k));
    }

    private void tapes() {
        for (int t : new int[] {-1, 6, MIN, MAX}) {
            refused("judge " + t, NONE, x -> x.judge(t, 0));
            refused("tape " + t, NONE, x -> x.tape(t, 0, 1));
            refused("tape nothing " + t, NONE, x -> x.tape(t, -1, 1));
            refused("item " + t, NONE, x -> x.item(t, 0, 1));
            refused("read " + t, Long.MIN_VALUE, x -> x.read(t, 0));
            refused("shift from " + t, NONE, x -> x.shift(t, 0, 0, 0, 1));
            refused("shift to " + t, NONE, x -> x.shift(0, 0, t, 0, 1));
        }
        refused("judge longs", CAST, x -> x.judge(3, 0));
        for (int sort : new int[] {-2, 5, MIN, MAX}) refused("tape: sort " + sort, BAD, x -> x.tape(0, sort, 1));
        for (int n : new int[] {61, MAX}) refused("tape: n " + n, BAD, x -> x.tape(0, 0, n));
        for (int n : new int[] {-1, MIN}) refused("tape: n " + n, SIZE, x -> x.tape(0, 0, n));
        refused("item of nothing", NOTHING, x -> x.item(5, 0, 1));
        for (int i : new int[] {-1, 4, MIN, MAX}) {
            refused("item: place " + i, PLACE, x -> x.item(0, i, 1));
            refused("read: place " + i, Long.MIN_VALUE, x -> x.read(0, i));
            refused("shift: i " + i, PLACE, x -> x.shift(0, i, 0, 0, 1));
            refused("shift: j " + i, PLACE, x -> x.shift(0, 0, 0, i, 1));
        }
        refused("read of nothing", Long.MIN_VALUE, x -> x.read(5, 0));
        for (int n : new int[] {-1, 5, MIN, MAX}) refused("shift: n " + n, PLACE, x -> x.shift(0, 0, 0, 0, n));
        refused("shift from nothing", NOTHING, x -> x.shift(5, 0, 0, 0, 1));
        refused("shift to nothing", NOTHING, x -> x.shift(0, 0, 5, 0, 1));
        refused("shift to another sort", CAST, x -> x.shift(0, 0, 1, 0, 1));
    }

    private void asked() {
        for (int n = 0; n < 10; n++) {
            int i = n;
            for (int w = 0; w < 7; w++) {
                int window = w;
                isNothing("of " + w + " " + i, x -> x.of(window, i));
            }
            isNothing("told " + i, x -> x.told(i));
            isNothing("on " + 10 * i, x -> x.on(10 * i));
            isNothing("best " + (i - 1), x -> x.best(i - 1));
            isNothing("late " + 200 * i, x -> x.late(200 * i));
            isNothing("worth " + i, x -> x.worth(i));
            isNothing("odds " + i, x -> x.odds(200 * i, i % 2));
            isNothing("judge " + i, x -> x.judge(i, 1));
            isNothing("trace " + i, x -> x.trace(i));
            isNothing("taken " + i, x -> x.taken(i, 3));
            isNothing("count " + i, x -> x.count(i));
            isNothing("read " + i, x -> x.read(i, 1));
        }
        for (int n = 0; n < 3; n++) {
            int what = n;
            isNothing("round " + what, x -> x.round(what));
            isNothing("two " + what, x -> x.two(what));
            isNothing("sides " + what, x -> x.sides(what));
            isNothing("begin " + what, x -> x.begin(what));
            isNothing("mean " + what, x -> x.mean(what));
        }
        isNothing("next", NineWindows::next);
        isNothing("leave", NineWindows::leave);
        isNothing("from", NineWindows::from);
        isNothing("looked", NineWindows::looked);
    }

    private void nothingComes() {
        isNothing("pass 0", x -> x.pass(0));
        isNothing("shift none", x -> x.shift(0, 4, 0, 4, 0));
        isNothing("shift to where it is", x -> x.shift(0, 1, 0, 1, 3));
        isNothing("put as it is", x -> x.put(5, true));
        isNothing("nothing again", x -> x.tape(5, -1, 9));
    }

    /** "FULL" */
    private static void full() {
        NothingChangesTest t = new NothingChangesTest("full", Rich::full);
        t.refused("window", FULL, x -> x.window(0, 0, 0, 0, 1));
        t.refused("feed 0", FULL, x -> x.feed(0));
        t.refused("feed 127", FULL, x -> x.feed(127));
        t.refused("house", FULL, NineWindows::house);
        t.refused("see", FULL, x -> x.see(0, 0));
        t.refused("book", FULL, x -> x.book(0, 0));
        for (int w = 0; w < 7; w++) {
            int window = w;
            t.refused("add " + w, BAD, x -> x.add(window));
        }
        t.refused("best, six are open", -9, x -> x.best(-1));
        t.refused("best 4, six are open", -9, x -> x.best(4));
        t.windowsAndStorms();
        t.noWindow();
        t.asked();
    }

    /** "STATE: MINUTE would be above 9999." */
    private static void late() {
        NothingChangesTest t = new NothingChangesTest("late", Rich::late);
        t.refused("pass 1", STATE, x -> x.pass(1));
        t.refused("pass 99", STATE, x -> x.pass(99));
        for (int w = 0; w < 6; w++) {
            int window = w;
            t.refused("shut " + w, STATE, x -> x.shut(window));
        }
        t.isNothing("pass 0", x -> x.pass(0));
        t.minutesAndRounds();
    }

    /** "0, and no TRACE then": but for that, nothing else is otherwise. */
    private static void noAct() {
        NothingChangesTest t = new NothingChangesTest("no act", () -> {
            NineWindows x = Rich.withRoom();
            x.act(-1, 0, 0);
            return x;
        });
        for (int w : new int[] {-1, 6, MIN, MAX}) t.refused("act of " + w, 0, x -> x.act(w, 0, 9));
        for (int a : new int[] {-1, 3, MIN, MAX}) t.refused("act " + a, 0, x -> x.act(0, a, 9));
    }

    /** An undo() without an image, on objects that have none. */
    private static void noImage() {
        NineWindows x = new NineWindows();
        NineWindows y = new NineWindows();
        for (NineWindows each : new NineWindows[] {x, y}) {
            each.window(6, 1, 2, 3, 4);
            each.row(0, 1, 9);
            each.storm(0, 3);
            each.pass(3);
            each.add(0);
            each.see(0, 9);
            each.book(0, 9);
            each.feed('l');
        }
        Check.due("undo", x.undo(), STATE);
        long[] with = Rich.all(x);
        long[] without = Rich.all(y);
        for (int i = 0; i < without.length; i++) Check.due("behind undo, asked as " + i, with[i], without[i]);
    }

    public static void main(String[] args) {
        NothingChangesTest t = new NothingChangesTest("with room", Rich::withRoom);
        t.windowsAndStorms();
        t.noWindow();
        t.minutesAndRounds();
        t.whatAndPart();
        t.tapes();
        t.asked();
        t.nothingComes();
        new NothingChangesTest("of seven", Rich::ofSeven).asked();
        full();
        late();
        noAct();
        noImage();
        Check.end("NothingChangesTest");
    }
}
