/** Promises 21 to 29: worth, sides, beginnings, seen, odds, books. */
public final class SidesTest {
    private static void worth() {
        NineWindows x = new NineWindows();
        Check.due("21: none", x.worth(0), -1);
        x.window(4, 2, 0, 0, 1);
        x.window(4, 5, 0, 0, 1);
        x.window(2, 0, 0, 0, 1);
        Check.due("21: it slams, and the other with it", x.worth(0), 15 * (3 + 2 + 5));
        Check.due("21: the half", x.worth(2), 15);
        Check.due("21: -1", x.worth(-1), -1);
        Check.due("21: 3", x.worth(3), -1);
        x.put(1, true);
        Check.due("21: alone", x.worth(0), 45);
        Check.due("21: shut", x.worth(1), 0);
        x.add(0);
        Check.due("21: of no round", x.worth(0), 45);
        Check.due("21: nothing changed", x.told(8), 5);
    }

    private static void sides() {
        NineWindows x = new NineWindows();
        Check.due("22: all alike", x.sides(0), 0);
        Check.due("22: no cost", x.sides(1), 0);
        x.window(5, 6, 0, 0, 1);
        Check.due("22: lee of 6", x.sides(0), 2);
        Check.due("22: its cost", x.sides(1), 15);
        Check.house(x, "wet 1 s=3|s=1");
        x.window(0, 0, 0, 0, 1);
        Check.due("22: two alike, the first", x.sides(0), 1);
        Check.due("22: their cost", x.sides(1), 60);
        x.put(1, true);
        Check.due("22: lee again", x.sides(0), 2);
        Check.due("22: -1", x.sides(-1), -1);
        Check.due("22: 2", x.sides(2), -1);
        x.add(0);
        Check.due("22: of no round", x.sides(1), 15);
        Check.due("22: side stays", x.told(3), 0);
    }

    private static void begin() {
        NineWindows x = new NineWindows();
        Check.due("23: none", x.begin(0), 0);
        x.window(0, 0, 0, 0, 4);
        x.pass(30);
        Check.due("23: no round: the first that is whole", x.begin(0), 30);
        Check.due("23: its cost", x.begin(1), 45);
        x.add(0);
        Check.due("23: four minutes of it, be it there long", x.begin(0), 19);
        Check.due("23: their cost", x.begin(1), 12);
        Check.due("23: -1", x.begin(-1), -1);
        Check.due("23: 2", x.begin(2), -1);
        Check.due("23: comes stays", x.told(2), 20);
        x.pass(99);
        Check.due("23: 129, none is there", x.begin(0), 0);
        Check.due("23: no cost", x.begin(1), 0);
    }

    /** A told one with a ROW in one part: where the storm begins matters. */
    private static void beginByRow() {
        NineWindows x = new NineWindows();
        x.window(6, 0, 0, 0, 1);
        x.row(0, 3, 9);
        Check.house(x, "last 1");
        Check.due("23: at 3", x.begin(0), 3);
        Check.due("23: 15", x.begin(1), 15);
        x.pass(99);
        Check.due("23: at 99", x.begin(0), 99);
    }

    private static void see() {
        NineWindows x = new NineWindows();
        Check.due("24: none", x.see(0, 10000), -1);
        x.window(0, 0, 0, 0, 1);
        Check.due("24: harm -1", x.see(0, -1), -2);
        Check.due("24: harm 10000", x.see(0, 10000), -2);
        for (int i = 1; i <= 6; i++) Check.due("24: one more", x.see(0, 9999), i);
        Check.due("24: full", x.see(0, 0), -4);
        Check.due("24: bad ahead of full", x.see(0, -1), -2);
        Check.due("24: six", x.count(3), 6);
        Check.due("24: none then", x.see(-1, 99999), 0);
        Check.due("24: none are", x.count(3), 0);
        Check.due("24: -2", x.see(-2, 0), -1);
        Check.due("24: 0 is fine", x.see(0, 0), 1);
    }

    private static void from() {
        NineWindows x = new NineWindows();
        Check.due("25: nothing seen", x.from(), 15);
        x.window(0, 0, 0, 0, 1);
        x.window(5, 2, 0, 0, 1);
        Check.house(x, "wet 2 s>1");
        x.see(0, 75);
        Check.due("25: from two", x.from(), 12);
        x.see(1, 0);
        Check.due("25: not in the lee", x.from(), 8);
        x.see(1, 1);
        Check.due("25: none is", x.from(), 0);
        x.see(-1, 0);
        x.see(1, 30);
        Check.due("25: the lee", x.from(), 4);
        x.add(1);
        Check.due("25: nobody shuts any", x.from(), 4);
        x.pass(30);
        Check.due("25: from now on", x.from(), 0);
        x.see(-1, 0);
        x.see(0, 25);
        Check.due("25: what is left", x.from(), 12);
        x.put(0, true);
        Check.due("25: shut", x.from(), 0);
        x.see(-1, 0);
        x.see(0, 0);
        Check.due("25: shut, and so seen", x.from(), 15);
    }

    private static void odds() {
        NineWindows x = new NineWindows();
        x.window(0, 0, 0, 0, 1);
        Check.house(x, "wet 1 s>0;wet 1 s>1");
        int[][] want = {{44, 0, 1}, {45, 1, 4}, {59, 1, 4}, {60, 1, 2}, {75, 1, 1}, {99999, 1, 1}};
        for (int[] w : want) {
            Check.due("26: above, " + w[0], x.odds(w[0], 0), w[1]);
            Check.due("26: below, " + w[0], x.odds(w[0], 1), w[2]);
        }
        Check.due("26: q -1", x.odds(-1, 0), Long.MIN_VALUE);
        Check.due("26: q 100000", x.odds(100000, 0), Long.MIN_VALUE);
        Check.due("26: part -1", x.odds(0, -1), Long.MIN_VALUE);
        Check.due("26: part 2", x.odds(0, 2), Long.MIN_VALUE);
        Check.house(x, "dry 3 s=2");
        Check.due("26: one of four", x.odds(44, 0) * 10 + x.odds(44, 1), 14);
        Check.house(x, "wet 1 s=2");
        Check.due("26: three of four", x.odds(45, 0) * 10 + x.odds(45, 1), 34);
        x.add(0);
        Check.due("26: by the round", x.odds(0, 0), 1);
    }

    /** By COMES of 0 .. 9 the window, shut at 3, is open for 3, 2, 1, 0 .. minutes of it. */
    private static void mean() {
        NineWindows x = new NineWindows();
        Check.due("27: none, above", x.mean(0), 0);
        Check.due("27: none, below", x.mean(1), 1);
        x.window(0, 0, 0, 0, 3);
        x.add(0);
        x.storm(0, 0);
        Check.due("27: 18 by 10, above", x.mean(0), 9);
        Check.due("27: 18 by 10, below", x.mean(1), 5);
        Check.due("27: -1", x.mean(-1), Long.MIN_VALUE);
        Check.due("27: 2", x.mean(2), Long.MIN_VALUE);
        x.storm(99, 0);
        x.add(-1);
        Check.due("27: to 108, above", x.mean(0), 45);
        Check.due("27: to 108, below", x.mean(1), 1);
        x.storm(2, 0);
        x.add(0);
        Check.due("27: 3 by 10, above", x.mean(0), 3);
        Check.due("27: 3 by 10, below", x.mean(1), 10);
    }

    private static void book() {
        NineWindows x = new NineWindows();
        Check.due("28: none", x.book(0, -1), -1);
        x.window(0, 0, 0, 0, 1);
        Check.due("28: minute -1", x.book(0, -1), -2);
        Check.due("28: minute 10000", x.book(0, 10000), -2);
        for (int i = 1; i <= 8; i++) Check.due("28: one more", x.book(0, 9999), i);
        Check.due("28: full", x.book(0, 0), -4);
        Check.due("28: none ahead of full", x.book(1, 0), -1);
        Check.due("28: eight", x.count(4), 8);
        Check.due("28: empty then", x.book(-1, -5), 0);
        Check.due("28: it is", x.count(4), 0);
    }

    /** 0 is shut at 3, 1 at 3 + 2 + 1. */
    private static void looked() {
        NineWindows x = new NineWindows();
        Check.due("29: empty", x.looked(), -5);
        x.window(0, 0, 0, 0, 3);
        x.window(0, 0, 0, 2, 1);
        x.window(0, 0, 0, 4, 1);
        x.add(0);
        x.add(1);
        x.book(0, 3);
        x.book(1, 6);
        Check.due("29: just in time", x.looked(), -5);
        x.book(2, 9999);
        Check.due("29: not in the round", x.looked(), 2);
        x.put(2, true);
        Check.due("29: shut now", x.looked(), -5);
        x.book(1, 5);
        Check.due("29: too late", x.looked(), 3);
        x.book(-1, 0);
        x.pass(4);
        x.book(2, 0);
        Check.due("29: who is shut is so sooner", x.looked(), -5);
        x.book(0, 6);
        Check.due("29: from now on", x.looked(), 1);
    }

    public static void main(String[] args) {
        worth();
        sides();
        begin();
        beginByRow();
        see();
        from();
        odds();
        mean();
        book();
        looked();
        Check.end("SidesTest");
    }
}
