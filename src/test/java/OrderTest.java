/** "The first that a call's words name": calls to which more than one refusal would fit, promise by promise. */
public final class OrderTest {
    private static final int NONE = -1, BAD = -2, STATE = -3, FULL = -4, NOTHING = -11, CAST = -12, PLACE = -13, SIZE = -14;

    /** "NONE: kind; BAD: v, floor, room, takes; FULL: 7." */
    private static void window(NineWindows room, NineWindows full) {
        Check.due("2: kind, v", room.window(7, 10, 0, 0, 1), NONE);
        Check.due("2: kind, floor", room.window(-1, 0, 4, 0, 1), NONE);
        Check.due("2: kind, room", room.window(-1, 0, 0, 5, 1), NONE);
        Check.due("2: kind, takes", room.window(7, 0, 0, 0, 0), NONE);
        Check.due("2: kind, full", full.window(7, 0, 0, 0, 1), NONE);
        Check.due("2: kind, all", full.window(-1, -1, -1, -1, 0), NONE);
        Check.due("2: v, full", full.window(0, 10, 0, 0, 1), BAD);
        Check.due("2: floor, full", full.window(0, 0, -1, 0, 1), BAD);
        Check.due("2: room, full", full.window(0, 0, 0, -1, 1), BAD);
        Check.due("2: takes, full", full.window(0, 0, 0, 0, 10), BAD);
        Check.due("2: full", full.window(6, 9, 3, 4, 9), FULL);
    }

    /** "NONE: window, part; BAD; STATE: another KIND." WINDOW 0 is TOLD, 1 is not. */
    private static void row(NineWindows x) {
        Check.due("5: window, n", x.row(7, 0, 10), NONE);
        Check.due("5: window, part, n", x.row(-1, 4, -1), NONE);
        Check.due("5: part, n", x.row(0, 4, 10), NONE);
        Check.due("5: part, n, kind", x.row(1, -1, -1), NONE);
        Check.due("5: part, kind", x.row(1, 4, 0), NONE);
        Check.due("5: n, kind", x.row(1, 0, 10), BAD);
        Check.due("5: n, kind", x.row(1, 3, -1), BAD);
        Check.due("5: kind", x.row(1, 3, 9), STATE);
    }

    /** "NONE: side; BAD: comes." "BAD; FULL." "FULL: there are 6 ..; -10 less the FAULT". */
    private static void stormsAndTexts(NineWindows x, NineWindows full) {
        Check.due("6: side, comes", x.storm(100, 4), NONE);
        Check.due("6: side, comes", x.storm(-1, -1), NONE);
        Check.due("6: comes", x.storm(-1, 3), BAD);
        Check.due("8: sign, full", full.feed(128), BAD);
        Check.due("8: sign, full", full.feed(-1), BAD);
        Check.due("8: full", full.feed(0), FULL);
        Check.due("9: six, and a fault", full.house(), FULL);
    }

    /** "BAD; STATE: MINUTE would be above 9999." "NONE; STATE: it is SHUT, or ..". */
    private static void minutes(NineWindows late) {
        Check.due("11: n, minute", late.pass(100), BAD);
        Check.due("11: n", late.pass(-1), BAD);
        Check.due("11: n, far", late.pass(Integer.MAX_VALUE), BAD);
        Check.due("11: minute", late.pass(99), STATE);
        Check.due("12: no window, minute", late.shut(6), NONE);
        Check.due("12: shut, minute", late.shut(5), STATE);
        Check.due("12: minute", late.shut(1), STATE);
    }

    /** "NONE; BAD: it is there already; FULL: 7." By seven of the round there is no eighth that is not there. */
    private static void rounds(NineWindows x, NineWindows full) {
        Check.due("14: no window, full", full.add(7), NONE);
        Check.due("14: it is there, full", full.add(0), BAD);
        Check.due("14: it is there", x.add(4), BAD);
        Check.due("16: k, six are open", full.best(5), NONE);
        Check.due("16: k, six are open", full.best(-2), NONE);
        Check.due("16: k, there are fewer", x.best(5), NONE);
        Check.due("16: six are open", full.best(4), -9);
        Check.due("18: q below 0", x.late(-1), BAD);
        Check.due("18: q too great", x.late(100000), BAD);
    }

    /** "NONE; BAD: harm; FULL: 6." "NONE; BAD: minute; FULL: 8." */
    private static void told(NineWindows x, NineWindows full) {
        Check.due("24: window, harm", x.see(6, -1), NONE);
        Check.due("24: window, harm, full", full.see(7, 10000), NONE);
        Check.due("24: window, full", full.see(-2, 0), NONE);
        Check.due("24: harm, full", full.see(0, 10000), BAD);
        Check.due("24: full", full.see(0, 9999), FULL);
        Check.due("28: window, minute", x.book(6, -1), NONE);
        Check.due("28: window, minute, full", full.book(7, 10000), NONE);
        Check.due("28: window, full", full.book(-2, 0), NONE);
        Check.due("28: minute, full", full.book(0, 10000), BAD);
        Check.due("28: full", full.book(0, 9999), FULL);
        Check.due("24: window -1, harm, full", full.see(-1, -1), 0);
        Check.due("28: window -1, minute, full", full.book(-1, -1), 0);
    }

    /** "BAD: k; NOTHING: no such WINDOW; CAST." */
    private static void taken(NineWindows x) {
        Check.due("35: k, window", x.taken(6, 7), BAD);
        Check.due("35: k, window", x.taken(-1, -1), BAD);
        Check.due("35: k", x.taken(0, 7), BAD);
        Check.due("35: window", x.taken(6, 6), NOTHING);
        Check.due("35: another kind", x.taken(1, 6), CAST);
    }

    /** "NONE: tape; BAD: sort, n above 60; SIZE." "NONE; NOTHING; PLACE." "NONE: tapes; NOTHING; CAST; PLACE". */
    private static void tapes(NineWindows x) {
        Check.due("37: tape, sort", x.tape(6, 5, 0), NONE);
        Check.due("37: tape, n", x.tape(-1, 0, 61), NONE);
        Check.due("37: tape, size", x.tape(6, 0, -1), NONE);
        Check.due("37: sort, n", x.tape(0, 5, 61), BAD);
        Check.due("37: sort, size", x.tape(0, -2, -1), BAD);
        Check.due("37: size", x.tape(0, 4, -1), SIZE);
        Check.due("37: no sort, size", x.tape(5, -1, -1), 1);
        Check.due("38: tape, place", x.item(6, -1, 0), NONE);
        Check.due("38: nothing, place", x.item(5, -1, 0), NOTHING);
        Check.due("38: nothing, place", x.item(5, 60, 0), NOTHING);
        Check.due("40: tape, nothing", x.shift(6, 0, 5, 0, 0), NONE);
        Check.due("40: nothing, tape", x.shift(5, 0, 6, 0, 0), NONE);
        Check.due("40: tape, place", x.shift(0, -1, -1, -1, -1), NONE);
        Check.due("40: nothing, place", x.shift(5, -1, 0, 0, 0), NOTHING);
        Check.due("40: nothing, place", x.shift(0, 0, 5, 0, -1), NOTHING);
        Check.due("40: nothing, to itself", x.shift(5, 0, 5, 0, 0), NOTHING);
        Check.due("40: cast, i", x.shift(0, -1, 1, 0, 0), CAST);
        Check.due("40: cast, j", x.shift(0, 0, 1, 5, 0), CAST);
        Check.due("40: cast, n", x.shift(0, 0, 1, 0, -1), CAST);
        Check.due("40: place", x.shift(0, -1, 0, 5, 0), PLACE);
        Check.due("30: tape", x.judge(6, -1), NONE);
        Check.due("30: cast, place", x.judge(0, -1), CAST);
        Check.due("30: nothing, place", x.judge(5, -1), 100);
    }

    public static void main(String[] args) {
        NineWindows room = Rich.withRoom();
        NineWindows full = Rich.full();
        window(room, full);
        row(room);
        stormsAndTexts(room, full);
        minutes(Rich.late());
        rounds(room, full);
        told(room, full);
        taken(room);
        tapes(room);
        Check.end("OrderTest");
    }
}
