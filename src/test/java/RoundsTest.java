/** Promises 14 to 20: rounds. */
public final class RoundsTest {
    /** Three plain windows in rooms 1, 3, 4 of floor 0, each shut in 2; it rains 3 from MINUTE 0 to 9. */
    private static NineWindows three() {
        NineWindows x = new NineWindows();
        x.window(0, 0, 0, 1, 2);
        x.window(0, 0, 0, 3, 2);
        x.window(0, 0, 0, 4, 2);
        Check.house(x, "last 10");
        x.storm(0, 0);
        return x;
    }

    private static void add() {
        NineWindows x = three();
        Check.due("14: 1", x.add(1), 1);
        Check.due("14: again", x.add(1), -2);
        Check.due("14: none 3", x.add(3), -1);
        Check.due("14: none -2", x.add(-2), -1);
        Check.due("14: 2", x.add(0), 2);
        Check.due("14: how many", x.count(2), 2);
        Check.due("14: none then", x.add(-1), 0);
        Check.due("14: how many then", x.count(2), 0);
        Check.due("14: 1 again", x.add(1), 1);
        for (int i = 0; i < 4; i++) x.window(0, 0, 0, 0, 1);
        for (int w = 6; w > 1; w--) x.add(w);
        Check.due("14: the seventh", x.add(0), 7);
        Check.due("14: any is there", x.add(3), -2);
    }

    /** 0 is shut at 3, 1 at 7, 2 at 10. */
    private static void round() {
        NineWindows x = three();
        Check.due("15: none, cost", x.round(0), 90);
        Check.due("15: none, end", x.round(1), 0);
        Check.due("15: none in time", x.round(2), 0);
        for (int w = 0; w < 3; w++) x.add(w);
        Check.due("15: cost", x.round(0), 3 * (3 + 7 + 10));
        Check.due("15: end", x.round(1), 10);
        Check.due("15: in time", x.round(2), 0);
        x.storm(7, 0);
        Check.due("15: in time by 7", x.round(2), 2);
        Check.due("15: cost from 7", x.round(0), 3 * 3);
        x.storm(6, 0);
        Check.due("15: in time by 6", x.round(2), 1);
        x.put(1, true);
        Check.due("15: end without 1", x.round(1), 3 + 3 + 2);
        Check.due("15: one shut, one in time", x.round(2), 2);
        Check.due("15: -1", x.round(-1), -1);
        Check.due("15: 3", x.round(3), -1);
        Check.due("15: nothing changed", x.told(0), 0);
        x.pass(9);
        for (int w = 0; w < 3; w++) x.put(w, true);
        Check.due("15: all are shut", x.round(2), 3);
        Check.due("15: end now", x.round(1), 9);
        Check.due("15: cost nothing", x.round(0), 0);
    }

    private static void best() {
        NineWindows x = new NineWindows();
        Check.due("16: none, cost", x.best(-1), 0);
        Check.due("16: none, first", x.best(0), -5);
        Check.due("16: k -2", x.best(-2), -1);
        Check.due("16: k 5", x.best(5), -1);
        x = three();
        Check.due("16: cost", x.best(-1), 3 * (3 + 7 + 10));
        for (int k = 0; k < 3; k++) Check.due("16: " + k, x.best(k), k);
        Check.due("16: fewer", x.best(3), -5);
        x.stand(0, 4);
        Check.due("16: from the other end", x.best(0), 2);
        Check.due("16: its last", x.best(2), 0);
        Check.due("16: its cost", x.best(-1), 3 * (2 + 5 + 9));
        x.put(2, true);
        Check.due("16: of those open", x.best(0), 1);
    }

    private static void bestOfSeveral() {
        NineWindows x = new NineWindows();
        for (int w = 0; w < 5; w++) x.window(0, 0, 0, 2, 1);
        x.storm(2, 0);
        for (int k = 0; k < 5; k++) Check.due("16: alike " + k, x.best(k), k);
        x.window(0, 0, 0, 2, 1);
        Check.due("16: six are open", x.best(0), -9);
        Check.due("16: six are open, cost", x.best(-1), -9);
        Check.due("16: k -2 ahead", x.best(-2), -1);
        x.put(0, true);
        Check.due("16: five are", x.best(0), 1);
        Check.due("16: the fifth", x.best(4), 5);
    }

    private static void next() {
        NineWindows x = new NineWindows();
        Check.due("17: none", x.next(), -5);
        x = three();
        Check.due("17: the near one", x.next(), 0);
        x.stand(0, 4);
        Check.due("17: the near one now", x.next(), 2);
        x.put(2, true);
        Check.due("17: of those open", x.next(), 1);
        x.pass(10);
        Check.due("17: alike, the first", x.next(), 0);
        x.put(0, true);
        x.put(1, true);
        Check.due("17: all are shut", x.next(), -5);
    }

    /** By waiting n the one window in the round is open 3 + n minutes of ten, the others all ten. */
    private static void late() {
        NineWindows x = three();
        x.add(0);
        Check.due("18: -1", x.late(-1), -2);
        Check.due("18: 100000", x.late(100000), -2);
        Check.due("18: never", x.late(68), -5);
        Check.due("18: at once", x.late(69), 0);
        Check.due("18: at once still", x.late(71), 0);
        Check.due("18: 1", x.late(72), 1);
        Check.due("18: 6", x.late(89), 6);
        Check.due("18: as late as may be", x.late(90), 60);
        Check.due("18: 99999", x.late(99999), 60);
        x.storm(50, 0);
        Check.due("18: ahead of the storm", x.late(60), 47);
    }

    private static void leave() {
        NineWindows x = three();
        Check.due("19: none", x.leave(), 0);
        for (int w = 0; w < 3; w++) x.add(w);
        Check.due("19: 2 is shut as the storm ends", x.leave(), 4);
        x.put(0, true);
        Check.due("19: one that is shut may stay", x.leave() & 1, 1);
        x.put(0, false);
        x.storm(50, 0);
        Check.due("19: all are needed", x.leave(), 0);
        x.pass(99);
        Check.due("19: it is over", x.leave(), 7);
        x = new NineWindows();
        x.window(1, 0, 3, 4, 9);
        x.window(3, 0, 0, 0, 3);
        x.add(0);
        x.add(1);
        x.storm(31, 0);
        Check.due("19: left out, the other is sooner", x.leave(), 1);
    }

    /** She shuts 0 and 1, the second one 2 (at 6); of two each one. */
    private static void two() {
        NineWindows x = three();
        Check.due("20: none, cost", x.two(0), 90);
        Check.due("20: none, end", x.two(1), 0);
        x.add(0);
        Check.due("20: one, cost", x.two(0), 3 * (3 + 20));
        Check.due("20: one, end", x.two(1), 3);
        x.add(1);
        x.add(2);
        Check.due("20: three, cost", x.two(0), 3 * (3 + 7 + 6));
        Check.due("20: three, end", x.two(1), 7);
        x.put(0, true);
        Check.due("20: the shut one counts for the half", x.two(0), 3 * (5 + 6));
        Check.due("20: end of both", x.two(1), 6);
        Check.due("20: -1", x.two(-1), -1);
        Check.due("20: 2", x.two(2), -1);
    }

    /** 6 way up, then 2 a room; a sticking one twice what it takes. */
    private static void stairs() {
        NineWindows x = new NineWindows();
        x.window(1, 0, 2, 3, 4);
        x.window(0, 0, 1, 1, 1);
        Check.house(x, "stair 11");
        x.add(0);
        x.add(1);
        Check.due("15: end by stairs", x.round(1), (22 + 3 + 8) + (11 + 2 + 1));
    }

    public static void main(String[] args) {
        add();
        round();
        best();
        bestOfSeveral();
        next();
        late();
        leave();
        two();
        stairs();
        Check.end("RoundsTest");
    }
}
