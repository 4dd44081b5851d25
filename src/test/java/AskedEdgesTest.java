/**
 * "Terms" 2 and promises 11 to 29: minutes, rounds, sides, books. A test of its own for each sentence that
 * names an edge; the answers are worked out by hand (RAIN is 3 where no house is told).
 */
public final class AskedEdgesTest {
    private static NineWindows of(String house, int comes) {
        NineWindows x = new NineWindows();
        Check.due("a house: " + house, Check.house(x, house), 0);
        x.storm(comes, 0);
        return x;
    }

    private static void passTo(NineWindows x, int minute) {
        while (x.told(0) < minute) x.pass(Math.min(99, minute - x.told(0)));
    }

    /** "n MINUTES (0 .. 99) go"; "STATE: MINUTE would be above 9999". */
    private static void passAtTheEnd() {
        NineWindows x = new NineWindows();
        Check.due("0", x.pass(0), 0);
        Check.due("99", x.pass(99), 0);
        Check.due("-1", x.pass(-1), -2);
        Check.due("100", x.pass(100), -2);
        Check.due("99 went", x.told(0), 99);
        passTo(x, 9901);
        Check.due("to 10000", x.pass(99), -3);
        Check.due("it stays", x.told(0), 9901);
        Check.due("to 9999", x.pass(98), 0);
        Check.due("9999", x.told(0), 9999);
        Check.due("one more", x.pass(1), -3);
        Check.due("none more", x.pass(0), 0);
        Check.due("asked on, it may be more", x.on(99), 0);
    }

    /** "STATE: it is SHUT, or MINUTE would be above 9999". */
    private static void shutAtTheEnd() {
        for (int kind = 0; kind < 2; kind++) {
            NineWindows x = new NineWindows();
            x.window(kind, 0, 1, 3, 2);
            int minutes = 2 + 3 + 2 + 2 * kind;
            passTo(x, 9999 - minutes + 1);
            x.image();
            Check.due("to 10000", x.shut(0), -3);
            Check.due("open still", x.told(8), 1);
            Check.due("she did not go", x.told(6) + x.told(7), 0);
            Check.due("nor did a minute", x.told(0), 9999 - minutes + 1);
            x.stand(0, 1);
            Check.due("to 9999", x.shut(0), minutes - 1);
            Check.due("9999", x.told(0), 9999);
            Check.due("it is shut", x.shut(0), -3);
            x.undo();
            x.put(0, true);
            Check.due("it is shut, be there time or none", x.shut(0), -3);
        }
    }

    /** "WET more in n MINUTES (0 .. 99)": nothing goes. */
    private static void on() {
        NineWindows x = of("last 98", 1);
        x.window(0, 0, 0, 0, 1);
        Check.due("0", x.on(0), 0);
        Check.due("1, ahead of it", x.on(1), 0);
        Check.due("2", x.on(2), 3);
        Check.due("98", x.on(98), 97 * 3);
        Check.due("99, all of it", x.on(99), 98 * 3);
        Check.due("-1", x.on(-1), -2);
        Check.due("100", x.on(100), -2);
        Check.due("none went", x.told(0) + x.told(1), 0);
    }

    /** "(7 at most, no two alike; none at first)". */
    private static void theRound() {
        NineWindows x = new NineWindows();
        Check.due("none at first", x.count(2), 0);
        Check.due("none then", x.add(-1), 0);
        Check.due("no window yet", x.add(0), -1);
        for (int w = 0; w < 7; w++) x.window(0, 0, 0, 0, 1);
        for (int w = 6; w >= 0; w--) {
            Check.due("one more", x.add(w), 7 - w);
            Check.due("it is there", x.add(w), -2);
            Check.due("how many", x.count(2), 7 - w);
        }
        Check.due("no window 7", x.add(7), -1);
        Check.due("none then", x.add(-1), 0);
        Check.due("none at all", x.count(2), 0);
        x.put(3, true);
        Check.due("a shut one may come", x.add(3), 1);
    }

    /** "the MINUTE when the last one is SHUT (MINUTE now, if there is none)"; "one that is SHUT now is passed over". */
    private static void end() {
        NineWindows x = new NineWindows();
        Check.due("none", x.round(1), 0);
        x.pass(7);
        Check.due("none, now is 7", x.round(1), 7);
        x.window(0, 0, 3, 4, 9);
        x.window(0, 0, 0, 1, 2);
        x.window(0, 0, 3, 0, 5);
        x.put(0, true);
        x.put(2, true);
        x.add(0);
        Check.due("all are shut", x.round(1), 7);
        Check.due("all are shut, of two", x.two(1), 7);
        x.add(1);
        Check.due("she does not go there", x.round(1), 7 + 1 + 2);
        x.add(2);
        Check.due("nor there at last", x.round(1), 7 + 1 + 2);
        x.put(2, false);
        Check.due("but to an open one", x.round(1), 10 + 3 * 2 + 1 + 5);
    }

    /** "till both END and the storm are over": it is there from 2 to 11; the other window is in no round. */
    private static void cost() {
        int[][] takesRoomCost = {{1, 0, 0}, {2, 0, 0}, {3, 0, 3}, {9, 2, 27}, {9, 3, 30}, {9, 4, 30}};
        for (int[] t : takesRoomCost) {
            NineWindows x = of("last 10", 2);
            x.window(0, 0, 0, t[1], t[0]);
            x.window(0, 0, 0, 0, 1);
            x.add(0);
            Check.due("end", x.round(1), t[0] + t[1]);
            Check.due("cost, end at " + (t[0] + t[1]), x.round(0), 30 + t[2]);
            Check.due("in time", x.round(2), t[0] + t[1] <= 2 ? 1 : 0);
        }
        NineWindows x = of("last 10", 2);
        x.window(0, 0, 0, 0, 1);
        x.pass(11);
        Check.due("its last minute", x.round(0), 3);
        Check.due("no more than that", x.next(), 0);
        x.pass(1);
        Check.due("it is over", x.round(0), 0);
        x.storm(2, 0);
        x.put(0, true);
        Check.due("shut", x.round(0), 0);
    }

    /** "(be it above 999999)": COST, of whatever is asked, though WET itself is the most already. */
    private static void aboveTheMostWet() {
        StringBuilder house = new StringBuilder();
        for (int i = 0; i < 8; i++) house.append("wet 99 w<9;");
        NineWindows x = of(house + "last 99", 0);
        for (int i = 0; i < 7; i++) x.window(3, 0, 0, 0, 9);
        int minute = 2 * (3 + 8 * 99);
        int all = 7 * 99 * minute;
        for (int times = 0; times < 2; times++) {
            Check.due("round", x.round(0), all);
            Check.due("two", x.two(0), all);
            Check.due("sides", x.sides(1), all);
            Check.due("begin", x.begin(1), all);
            Check.due("worth", x.worth(6), 99 * minute);
            Check.due("mean", x.mean(0), all);
            Check.due("late", x.late(99999), -5);
            Check.due("odds, above", x.odds(99999, 0), 0);
            Check.due("odds, below", x.odds(99999, 1), 1);
            x.put(0, true);
            x.put(1, true);
            Check.due("best", x.best(-1), minute * (9 + 18 + 27 + 36 + 45));
            x.put(0, false);
            x.put(1, false);
            x.pass(99);
            Check.due("the most", x.told(1), 999999);
            x.storm(99, 0);
        }
    }

    /** "SHUT by COMES or sooner (those that are SHUT now, too)". */
    private static void inTime() {
        NineWindows x = new NineWindows();
        x.window(0, 0, 0, 0, 4);
        x.window(0, 0, 0, 0, 3);
        x.add(0);
        x.add(1);
        int[] inTime = {0, 0, 0, 0, 1, 1, 1, 2, 2};
        for (int comes = 0; comes < inTime.length; comes++) {
            x.storm(comes, 0);
            Check.due("in time by " + comes, x.round(2), inTime[comes]);
        }
        x.storm(4, 0);
        x.pass(1);
        Check.due("at 5 it is late", x.round(2), 0);
        x.pass(50);
        x.put(1, true);
        Check.due("shut now, though later than 4", x.round(2), 1);
    }

    private static NineWindows rainsByRank(int[] rank) {
        StringBuilder house = new StringBuilder("last 99");
        for (int w = 0; w < rank.length; w++) house.append(";wet ").append(9 - rank[w]).append(" w=").append(w);
        NineWindows x = of(house.toString(), 0);
        for (int w = 0; w < rank.length; w++) x.window(0, 0, 0, 0, 1);
        return x;
    }

    /** "that with the least COST": in each of the 120 rows of five, where the wettest is to be the first. */
    private static void bestOfFive() {
        int[] rank = new int[5];
        for (int n = 0; n < 3125; n++) {
            int seen = 0;
            for (int w = 0, rest = n; w < 5; w++, rest /= 5) {
                rank[w] = rest % 5;
                seen |= 1 << rank[w];
            }
            if (seen != 31) continue;
            NineWindows x = rainsByRank(rank);
            int cost = 0;
            for (int w = 0; w < 5; w++) {
                cost += (3 + 9 - rank[w]) * (rank[w] + 1);
                Check.due("best, row " + n, x.best(rank[w]), w);
                if (rank[w] == 0) Check.due("next, row " + n, x.next(), w);
            }
            Check.due("best cost, row " + n, x.best(-1), cost);
        }
    }

    /** What has been asked of seven leaves nothing behind that another call, asked of five or three, would find. */
    private static void bestBehindLeave() {
        for (int turn = 0; turn < 7; turn++) {
            for (int open = 5; open >= 3; open -= 2) {
                NineWindows x = rainsByRank(new int[] {4, 3, 2, 1, 0});
                for (int w = 5; w < 7; w++) x.window(0, 0, 0, 0, 1);
                for (int w = open; w < 7; w++) x.put(w, true);
                for (int i = 0; i < 7; i++) x.add((i + turn) % 7);
                x.leave();
                for (int k = 0; k < open; k++) Check.due("best " + k + " of " + open, x.best(k), open - 1 - k);
                Check.due("best, no more", x.best(open), open < 5 ? -5 : -1);
                x.leave();
                Check.due("next", x.next(), open - 1);
                Check.due("best, the last", x.best(open - 1), 0);
            }
        }
    }

    /** "(5 OPEN WINDOWS at most, else -9)"; "(-5: there are fewer)"; "NONE: k (-1 .. 4)". */
    private static void bestEdges() {
        NineWindows x = new NineWindows();
        for (int open = 0; open <= 7; open++) {
            for (int k = -1; k <= 4; k++) {
                int want = open > 5 ? -9 : k == -1 ? open * 45 - cheaper(open) : k < open ? k : -5;
                x.storm(1, 0);
                Check.due(open + " are open: best " + k, x.best(k), want);
            }
            Check.due(open + " are open: best -2", x.best(-2), -1);
            Check.due(open + " are open: best 5", x.best(5), -1);
            x.window(0, 0, 0, 0, 1);
        }
        x.put(0, true);
        Check.due("six are open", x.best(0), -9);
        x.put(6, true);
        Check.due("five are open, the first", x.best(0), 1);
        Check.due("five are open, the fifth", x.best(4), 5);
    }

    /** What it saves to shut so many one after the other, each in 1, where all is alike and it comes at 1 for 15. */
    private static int cheaper(int open) {
        int saved = 0;
        for (int n = 1; n <= open; n++) saved += 3 * (16 - n);
        return saved;
    }

    /** "(of several the first as a row)", "(of several the first; -5: none is OPEN)". */
    private static void ofSeveralTheFirst() {
        NineWindows x = new NineWindows();
        Check.due("next: none", x.next(), -5);
        for (int w = 0; w < 5; w++) x.window(0, 0, 0, w, 1);
        x.pass(99);
        for (int k = 0; k < 5; k++) Check.due("best: all cost nothing", x.best(k), k);
        Check.due("next: all cost nothing", x.next(), 0);
        x.put(0, true);
        Check.due("next: the first open one", x.next(), 1);
        Check.due("best: the first open one", x.best(0), 1);
        for (int w = 1; w < 5; w++) x.put(w, true);
        Check.due("next: none is open", x.next(), -5);
        Check.due("best: none is open", x.best(0), -5);
        Check.due("best: none is open, cost", x.best(-1), 0);
    }

    /** "the greatest n (0 .. 60)", "q (0 .. 99999)", "-5: none": it is shut at 3 + n, and rains 3 from COMES. */
    private static void late() {
        int[][] comesQLate = {{3, 0, 0}, {2, 0, -5}, {2, 2, -5}, {2, 3, 0}, {2, 5, 0}, {2, 6, 1}, {50, 0, 47},
            {62, 0, 59}, {63, 0, 60}, {64, 0, 60}, {61, 5, 59}, {61, 6, 60}, {99, 0, 60}};
        for (int[] t : comesQLate) {
            NineWindows x = new NineWindows();
            x.window(0, 0, 0, 0, 3);
            x.storm(t[0], 0);
            x.add(0);
            Check.due("it comes at " + t[0] + ": late " + t[1], x.late(t[1]), t[2]);
            Check.due("late -1", x.late(-1), -2);
            Check.due("late 100000", x.late(100000), -2);
            Check.due("late 99999", x.late(99999), 60);
        }
        NineWindows x = new NineWindows();
        Check.due("nothing to be wet", x.late(0), 60);
        x.window(0, 0, 0, 0, 3);
        Check.due("no round: never", x.late(44), -5);
        Check.due("no round: as late as may be", x.late(45), 60);
        x.pass(99);
        Check.due("it is over", x.late(0), 60);
    }

    /** COST of 99999 and of a little more, set against the greatest q: 41 MINUTES of 9 times 271. */
    private static void theGreatestQ() {
        for (int more = 0; more < 2; more++) {
            NineWindows x = of("wet 99 w<9;wet 99 w<9;wet 70 w<9;wet " + more + " w=4;last 41", 0);
            for (int w = 0; w < 4; w++) x.window(3, 0, 0, 0, 1);
            x.window(0, 0, 0, 0, 1);
            Check.due("cost", x.round(0), 99999 + 41 * more);
            Check.due("late of the greatest", x.late(99999), more == 0 ? 60 : -5);
            Check.due("late of one less", x.late(99998), -5);
            Check.due("odds of the greatest", x.odds(99999, 0), 1 - more);
            Check.due("odds of one less", x.odds(99998, 0), 0);
        }
    }

    /** "COST is no more than as it is": alike is enough; bits by WINDOW, not by place. */
    private static void leave() {
        NineWindows x = of("last 10", 0);
        Check.due("none", x.leave(), 0);
        for (int w = 0; w < 7; w++) x.window(0, 0, 0, 0, w < 6 ? 1 : 9);
        x.add(6);
        Check.due("at 9 of 10 it is needed", x.leave(), 0);
        x.stand(0, 1);
        Check.due("at 10 of 10 it may stay", x.leave(), 64);
        x.stand(0, 0);
        x.add(5);
        Check.due("at 9 and 10: without 6, 5 is at 1", x.leave(), 64 + 32);
        x.put(6, true);
        Check.due("a shut one may be left out", x.leave(), 64);
        x.put(5, true);
        Check.due("all are shut", x.leave(), 64 + 32);
        x.put(5, false);
        x.pass(10);
        Check.due("it is over", x.leave(), 64 + 32);
    }

    /** "SHUTS the last ones of THE ROUND, the half of them (cut), in their order, and SHE the others". */
    private static void two() {
        for (int first = 1; first <= 9; first += 8) {
            NineWindows x = of("last 99", 0);
            for (int w = 0; w < 7; w++) x.window(0, 0, 0, 0, w == 0 ? first : 1);
            for (int n = 0; n <= 7; n++) {
                int hers = n - n / 2;
                int herEnd = n == 0 ? 0 : first + hers - 1;
                int cost = 3 * 99 * (7 - n);
                for (int i = 0; i < hers; i++) cost += 3 * (first + i);
                for (int i = 1; i <= n / 2; i++) cost += 3 * i;
                Check.due("end of both, " + n, x.two(1), Math.max(herEnd, n / 2));
                Check.due("cost of both, " + n, x.two(0), cost);
                if (n < 7) x.add(n);
            }
        }
        NineWindows x = new NineWindows();
        x.window(0, 0, 0, 0, 1);
        x.window(0, 0, 3, 4, 9);
        x.add(0);
        x.add(1);
        Check.due("the end is the other's, who is where she is", x.two(1), 6 + 4 + 9);
        x.stand(3, 4);
        Check.due("both begin where she is", x.two(1), 6 + 4 + 1);
        Check.due("-1", x.two(-1), -1);
        Check.due("2", x.two(2), -1);
    }

    /** "COST of no ROUND, less that were it SHUT now." */
    private static void worth() {
        NineWindows x = new NineWindows();
        Check.due("none", x.worth(0), -1);
        for (int w = 0; w < 7; w++) x.window(w == 6 ? 3 : 2, 0, 0, 0, 1);
        Check.due("the first", x.worth(0), 15);
        Check.due("the seventh", x.worth(6), 90);
        Check.due("no 7", x.worth(7), -1);
        Check.due("no -1", x.worth(-1), -1);
        x.put(6, true);
        Check.due("shut", x.worth(6), 0);
        x.pass(99);
        Check.due("over", x.worth(0), 0);
        Check.due("open still", x.told(8), 63);
    }

    /** "the SIDE by which COST of no ROUND is most (of several the first); that COST". */
    private static void sides() {
        for (int bits = 0; bits < 16; bits++) {
            StringBuilder house = new StringBuilder("last 2");
            int first = 0;
            for (int side = 3; side >= 0; side--) {
                if ((bits >> side & 1) == 0) continue;
                house.append(";wet 1 s=").append(side);
                first = side;
            }
            NineWindows x = of(house.toString(), 0);
            x.window(0, 0, 0, 0, 1);
            Check.due("the first of " + bits, x.sides(0), first);
            Check.due("its cost, " + bits, x.sides(1), bits == 0 ? 6 : 8);
            Check.due("side stays", x.told(3), 0);
        }
    }

    /** "the COMES (0 .. 99) by which COST of THE ROUND is most (of several the least)". */
    private static void begin() {
        NineWindows x = of("last 3", 50);
        x.window(0, 0, 0, 0, 5);
        Check.due("no round: all alike", x.begin(0), 0);
        x.add(0);
        Check.due("0, 1 and 2 are alike", x.begin(0), 0);
        Check.due("cost", x.begin(1), 9);
        x.pass(2);
        Check.due("2, 3 and 4 are alike", x.begin(0), 2);
        x.pass(96);
        Check.due("98 and 99 are", x.begin(0), 98);
        x.pass(1);
        Check.due("only 99 is", x.begin(0), 99);
        x.pass(1);
        Check.due("of 99 two minutes are left", x.begin(0), 99);
        Check.due("two", x.begin(1), 6);
        x.pass(2);
        Check.due("none are left", x.begin(0), 0);
        Check.due("none", x.begin(1), 0);
        Check.due("comes stays", x.told(2), 50);
    }

    /** "HARM (0 .. 9999; 6 at most)"; "(window -1: none then, 0, whatever the other is)". */
    private static void seen() {
        NineWindows x = new NineWindows();
        int[] others = {0, 9999, -1, 10000, Integer.MIN_VALUE, Integer.MAX_VALUE};
        for (int other : others) Check.due("none then", x.see(-1, other), 0);
        Check.due("no window", x.see(0, 0), -1);
        x.window(0, 0, 0, 0, 1);
        Check.due("0", x.see(0, 0), 1);
        Check.due("9999", x.see(0, 9999), 2);
        Check.due("-1", x.see(0, -1), -2);
        Check.due("10000", x.see(0, 10000), -2);
        for (int n = 3; n <= 6; n++) Check.due("one more", x.see(0, 1), n);
        Check.due("full", x.see(0, 1), -4);
        for (int other : others) {
            Check.due("none then", x.see(-1, other), 0);
            Check.due("none are", x.count(3), 0);
            Check.due("one is", x.see(0, 1), 1);
        }
    }

    /** "is just that": nothing seen, the greatest HARM, one more or less, and the same window twice. */
    private static void from() {
        NineWindows x = of("wet 98 w=0;last 99", 0);
        Check.due("nothing seen", x.from(), 15);
        x.window(0, 0, 0, 0, 1);
        x.window(2, 0, 0, 0, 1);
        x.see(0, 9999);
        Check.due("9999", x.from(), 15);
        x.see(1, 99);
        Check.due("and 99", x.from(), 15);
        x.see(1, 98);
        Check.due("and 98 of the same", x.from(), 0);
        x.see(-1, 0);
        x.see(0, 9998);
        Check.due("one less", x.from(), 0);
        x.see(-1, 0);
        for (int n = 0; n < 5; n++) x.see(0, 9999);
        x.see(1, 100);
        Check.due("the sixth is not", x.from(), 0);
        x.see(-1, 0);
        x.see(0, 101);
        x.pass(98);
        Check.due("its last minute is left", x.from(), 15);
        x.pass(1);
        Check.due("none is left", x.from(), 0);
        x.see(-1, 0);
        x.see(0, 0);
        Check.due("0 of none", x.from(), 15);
    }

    /** "a fraction in lowest terms": of 0, 1, 2, 3, 4 SIDES. */
    private static void odds() {
        String[] houses = {"last 1", "wet 1 s<3;last 1", "wet 1 s<2;last 1", "wet 1 s<1;last 1", "dry 1 w=0;last 1"};
        int[][] want = {{1, 1}, {1, 4}, {1, 2}, {3, 4}, {1, 1}};
        for (int i = 0; i < houses.length; i++) {
            NineWindows x = of(houses[i], 0);
            x.window(0, 0, 0, 0, 1);
            Check.due("above", x.odds(3, 0), want[i][0]);
            Check.due("below", x.odds(3, 1), want[i][1]);
            Check.due("of 0, above", x.odds(0, 0), 0);
            Check.due("of 0, below", x.odds(0, 1), 1);
            x.add(0);
            Check.due("of 0, by a round", x.odds(0, 0), 0);
            x.storm(1, 0);
            Check.due("of 0, by a round in time", x.odds(0, 0) * 10 + x.odds(0, 1), 11);
            int[][] none = {{-1, 0}, {100000, 0}, {0, -1}, {0, 2}, {-1, -1}};
            for (int[] n : none) Check.due("no such", x.odds(n[0], n[1]), Long.MIN_VALUE);
        }
    }

    /** "by COMES as it is, and 1, 2 .. 9 more (be it beyond 99), together, by ten: a fraction in lowest terms". */
    private static void mean() {
        int[][] want = {{1, 10}, {1, 5}, {3, 10}, {2, 5}, {1, 2}, {3, 5}, {7, 10}, {4, 5}, {9, 10}, {1, 1}};
        for (int minute = 99; minute <= 108; minute++) {
            NineWindows x = of("last 99;dry 2 w=0", 99);
            x.window(0, 0, 0, 0, 1);
            x.add(0);
            x.pass(99);
            x.pass(minute - 99);
            int n = minute - 99;
            Check.due("above, at " + minute, x.mean(0), want[n][0]);
            Check.due("below, at " + minute, x.mean(1), want[n][1]);
            x.put(0, true);
            Check.due("of nothing, above", x.mean(0), 0);
            Check.due("of nothing, below", x.mean(1), 1);
            Check.due("-1", x.mean(-1), Long.MIN_VALUE);
            Check.due("2", x.mean(2), Long.MIN_VALUE);
            Check.due("comes stays", x.told(2), 99);
        }
    }

    /** "WINDOWS and MINUTES (0 .. 9999; 8 at most)"; "(window -1: it is empty then, 0, whatever the other is)". */
    private static void book() {
        NineWindows x = new NineWindows();
        int[] others = {0, 9999, -1, 10000, Integer.MIN_VALUE, Integer.MAX_VALUE};
        for (int other : others) Check.due("empty then", x.book(-1, other), 0);
        Check.due("no window", x.book(0, 0), -1);
        x.window(0, 0, 0, 0, 1);
        Check.due("0", x.book(0, 0), 1);
        Check.due("9999", x.book(0, 9999), 2);
        Check.due("-1", x.book(0, -1), -2);
        Check.due("10000", x.book(0, 10000), -2);
        for (int n = 3; n <= 8; n++) Check.due("one more", x.book(0, 1), n);
        Check.due("full", x.book(0, 1), -4);
        for (int other : others) {
            Check.due("empty then", x.book(-1, other), 0);
            Check.due("it is", x.count(4), 0);
            Check.due("one row", x.book(0, 1), 1);
        }
    }

    /** "the number of the first of these rows", the first and the eighth; "at that MINUTE or sooner"; "-5: none". */
    private static void looked() {
        NineWindows x = new NineWindows();
        Check.due("an empty book", x.looked(), -5);
        x.window(0, 0, 0, 0, 5);
        x.window(0, 0, 0, 0, 1);
        x.add(0);
        x.book(0, 4);
        Check.due("the first row", x.looked(), 0);
        x.book(-1, 0);
        for (int n = 0; n < 7; n++) x.book(0, 5);
        Check.due("none", x.looked(), -5);
        x.book(1, 9999);
        Check.due("the eighth row", x.looked(), 7);
        x.put(1, true);
        Check.due("shut now", x.looked(), -5);
        x.put(0, true);
        x.book(-1, 0);
        x.book(0, 0);
        x.pass(9);
        Check.due("who is shut is so sooner", x.looked(), -5);
        x.put(0, false);
        Check.due("who is open is not", x.looked(), 0);
    }

    /** THE ROUND may end above 9999, when nothing could be done by shut(). */
    private static void lookedAtTheEnd() {
        NineWindows x = new NineWindows();
        x.window(0, 0, 0, 0, 5);
        x.add(0);
        x.book(0, 9999);
        passTo(x, 9994);
        Check.due("at 9999", x.looked(), -5);
        x.pass(1);
        Check.due("at 10000", x.looked(), 0);
        Check.due("end", x.round(1), 10000);
        Check.due("end of both", x.two(1), 10000);
        Check.due("no cost", x.round(0), 0);
        Check.due("late as may be", x.late(0), 60);
        Check.due("no such shutting", x.shut(0), -3);
    }

    public static void main(String[] args) {
        passAtTheEnd();
        shutAtTheEnd();
        on();
        theRound();
        end();
        cost();
        aboveTheMostWet();
        inTime();
        bestOfFive();
        bestBehindLeave();
        bestEdges();
        ofSeveralTheFirst();
        late();
        theGreatestQ();
        leave();
        two();
        worth();
        sides();
        begin();
        seen();
        from();
        odds();
        mean();
        book();
        looked();
        lookedAtTheEnd();
        Check.end("AskedEdgesTest");
    }
}
