import java.util.Random;

/** Many runs of calls by chance (always the same), each answer set against the Model's. */
public final class ModelRuns {
    private static final int RUNS = 500, CALLS = 512;

    private final Random r;
    private final int run;
    private final NineWindows x = new NineWindows();
    private final Model m = new Model();
    private int calls = 0;
    /** What a run is about, so that dear and rare things all get their runs. */
    private final boolean isWet;

    private ModelRuns(int run) {
        this.run = run;
        r = new Random(7919L * run + 17);
        isWet = run % 5 == 0;
    }

    private void due(String call, long got, long want) {
        calls++;
        Check.due("run " + run + ", call " + calls + ": " + call, got, want);
    }

    /** Mostly a to b, at times beside it or far off. */
    private int near(int a, int b) {
        int chance = r.nextInt(40);
        if (chance == 0) return a - 1;
        if (chance == 1) return b + 1;
        if (chance == 2 && r.nextInt(4) == 0) return r.nextBoolean() ? Integer.MAX_VALUE : Integer.MIN_VALUE;
        if (chance == 3) return a;
        if (chance == 4) return b;
        return a + r.nextInt(b - a + 1);
    }

    private int someWindow() {
        return r.nextInt(25) == 0 ? near(-1, 7) : r.nextInt(Math.max(1, m.s.ws.size()));
    }

    private String number(int most) {
        int n = r.nextInt(most + 1);
        return n < 10 && r.nextInt(5) == 0 ? "0" + n : "" + n;
    }

    private String test() {
        char letter = "wkfrst".charAt(r.nextInt(6));
        int most = letter == 't' ? 30 : 7;
        return "" + letter + "<=>".charAt(r.nextInt(3)) + number(most);
    }

    private String either(int within) {
        StringBuilder e = new StringBuilder(one(within));
        while (r.nextInt(3) == 0) e.append(r.nextBoolean() ? '|' : '&').append(one(within));
        return e.toString();
    }

    private String one(int within) {
        int chance = r.nextInt(8);
        if (chance == 0 && within < 5) return "!" + one(within + 1);
        if (chance <= 2 && within < 5) return "(" + either(within + 1) + ")";
        return test();
    }

    private String clause() {
        switch (r.nextInt(isWet ? 12 : 6)) {
            case 0: return "stair " + number(r.nextInt(3) == 0 ? 99 : 6);
            case 1: return "last " + (isWet ? "99" : number(r.nextInt(3) == 0 ? 99 : 40));
            case 2: return "dry " + number(9) + " " + either(0);
            default: return "wet " + (isWet ? "99 w<9" : number(r.nextInt(4) == 0 ? 99 : 9) + " " + either(0));
        }
    }

    private String text() {
        StringBuilder t = new StringBuilder(clause());
        for (int n = r.nextInt(isWet ? 11 : 6); n > 0; n--) t.append(';').append(clause());
        if (isWet && t.length() > 93) t.setLength(92);
        if (isWet) {
            t.setLength(Math.max(0, t.lastIndexOf(";")));
            t.append(t.length() > 0 ? ";last 99" : "last 99");
        }
        if (r.nextInt(4) == 0) spoil(t);
        return t.toString();
    }

    private void spoil(StringBuilder t) {
        String signs = "wetdrystairlast 0123456789<=>!()|&;kf\u0000\n~";
        int at = r.nextInt(t.length() + 1);
        int how = r.nextInt(4);
        if (how == 0) t.setLength(at);
        else if (how == 1 || at == t.length()) t.insert(at, signs.charAt(r.nextInt(signs.length())));
        else if (how == 2) t.setCharAt(at, signs.charAt(r.nextInt(signs.length())));
        else t.deleteCharAt(at);
    }

    private void feedText() {
        String t = text();
        for (int i = 0; i < t.length() && calls < CALLS; i++) {
            int c = t.charAt(i);
            due("feed(" + c + ")", x.feed(c), m.feed(c));
        }
        if (calls < CALLS) due("house() of " + t, x.house(), m.house());
    }

    private void addWindow() {
        int kind = near(0, 6);
        int v = near(0, 9);
        int floor = near(0, 3);
        int room = near(0, 4);
        int takes = near(1, 9);
        due("window", x.window(kind, v, floor, room, takes), m.window(kind, v, floor, room, takes));
    }

    private void change() {
        int w = someWindow();
        switch (r.nextInt(14)) {
            case 0: addWindow(); break;
            case 1:
                boolean shut = r.nextInt(3) == 0;
                due("put", x.put(w, shut), m.put(w, shut));
                break;
            case 2: case 3:
                int part = near(0, 3);
                int n = near(0, 9);
                due("row", x.row(w, part, n), m.row(w, part, n));
                break;
            case 4: case 5:
                int comes = r.nextInt(3) == 0 ? near(0, 99) : Math.min(99, m.s.minute + r.nextInt(20));
                int side = near(0, 3);
                due("storm", x.storm(comes, side), m.storm(comes, side));
                break;
            case 6:
                int floor = near(0, 3);
                int room = near(0, 4);
                due("stand", x.stand(floor, room), m.stand(floor, room));
                break;
            case 7: case 8:
                int minutes = r.nextInt(8) == 0 || isWet ? near(0, 99) : r.nextInt(4);
                due("pass", x.pass(minutes), m.pass(minutes));
                break;
            case 9: if (r.nextInt(2) == 0) due("shut", x.shut(w), m.shut(w)); break;
            case 10: case 11:
                int a = r.nextInt(20) == 0 ? -1 : w;
                due("add", x.add(a), m.add(a));
                break;
            case 12: due("image", x.image(), m.image()); break;
            default: if (r.nextInt(2) == 0) due("undo", x.undo(), m.undo());
        }
    }

    /** What has been seen is at times told as it would be by some side, so that FROM finds it. */
    private void tellByHand() {
        int w = r.nextInt(30) == 0 ? -1 : someWindow();
        if (r.nextBoolean()) {
            int minute = r.nextInt(3) == 0 ? near(0, 9999) : m.s.minute + r.nextInt(40);
            due("book", x.book(w, minute), m.book(w, minute));
            return;
        }
        int harm = near(0, 9999);
        if (m.has(w) && r.nextInt(5) > 0) {
            Model.S t = m.s.copy();
            t.side = r.nextInt(4);
            harm = m.harmFromNowOn(t, w);
        }
        due("see " + w + " " + harm, x.see(w, harm), m.see(w, harm));
    }

    private void askAll() {
        int k = near(-1, 4);
        int q = r.nextInt(3) == 0 ? near(0, 99999) : Math.min(99999, m.round(0) + r.nextInt(40) - 10);
        int what = near(0, 1);
        int w = someWindow();
        switch (r.nextInt(19)) {
            case 0: int n = near(0, 99); due("on " + n, x.on(n), m.on(n)); break;
            case 1: int i = near(0, 2); due("round " + i, x.round(i), m.round(i)); break;
            case 2: due("best " + k, x.best(k), m.best(k)); break;
            case 3: due("next", x.next(), m.next()); break;
            case 4: case 5: due("late " + q, x.late(q), m.late(q)); break;
            case 6: due("leave", x.leave(), m.leave()); break;
            case 7: case 8: due("two " + what, x.two(what), m.two(what)); break;
            case 9: due("worth " + w, x.worth(w), m.worth(w)); break;
            case 10: case 11: due("sides " + what, x.sides(what), m.sides(what)); break;
            case 12: if (r.nextInt(3) == 0) due("begin " + what, x.begin(what), m.begin(what)); break;
            case 13: due("from", x.from(), m.from()); break;
            case 14: case 15:
                due("odds " + q, x.odds(q, what), m.odds(q, what));
                break;
            case 16: due("mean " + what, x.mean(what), m.mean(what)); break;
            case 17: due("looked", x.looked(), m.looked()); break;
            default: askOne();
        }
    }

    private void askOne() {
        int what = near(0, 8);
        int w = someWindow();
        due("of", x.of(w, what), m.of(w, what));
        due("told " + what, x.told(what), m.told(what));
        due("count " + what, x.count(what), m.count(what));
    }

    private void act() {
        int w = someWindow();
        int act = near(0, 2);
        int n = r.nextInt(3) == 0 ? r.nextInt() : r.nextInt(20) - 10;
        int i = near(0, 20);
        int k = near(0, 6);
        due("act", x.act(w, act, n), m.act(w, act, n));
        due("count 6", x.count(6), m.count(6));
        due("trace", x.trace(i), m.trace(i));
        due("trace", x.trace(r.nextInt(1) + 3), m.trace(3));
        due("taken", x.taken(w, k), m.taken(w, k));
    }

    private void tapes() {
        int t = near(0, 5);
        int i = near(0, r.nextInt(3) == 0 ? 60 : 8);
        int j = near(0, 8);
        switch (r.nextInt(6)) {
            case 0:
                int sort = r.nextInt(3) == 0 ? 4 : near(-1, 4);
                int n = near(0, r.nextInt(3) == 0 ? 60 : 12);
                due("tape", x.tape(t, sort, n), m.tape(t, sort, n));
                break;
            case 1:
                long v = r.nextInt(3) == 0 ? r.nextLong() : r.nextInt(4) - 1;
                due("item", x.item(t, i, v), m.item(t, i, v));
                break;
            case 2: due("read", x.read(t, i), m.read(t, i)); break;
            case 3: case 4:
                int other = r.nextInt(3) == 0 ? near(0, 5) : t;
                int many = near(0, 8);
                due("shift", x.shift(t, i, other, j, many), m.shift(t, i, other, j, many));
                for (int p = 0; p < 3; p++) due("read", x.read(other, j + p), m.read(other, j + p));
                break;
            default: judgeAsIs(t, i);
        }
    }

    private void judgeAsIs(int t, int i) {
        if (r.nextInt(3) == 0 && Model.in(t, 0, 5)) {
            due("tape", x.tape(t, 4, 9), m.tape(t, 4, 9));
            for (int w = 0; w < m.s.ws.size(); w++) {
                long v = (m.s.ws.get(w).shut ? 1 : 0) ^ (r.nextInt(9) == 0 ? 1 : 0);
                due("item", x.item(t, w + 1, v), m.item(t, w + 1, v));
            }
            due("judge", x.judge(t, 1), m.judge(t, 1));
        }
        due("judge", x.judge(t, i), m.judge(t, i));
    }

    private void go() {
        int windows = r.nextInt(8);
        for (int n = 0; n < windows; n++) addWindow();
        while (calls < CALLS - 12) {
            int chance = r.nextInt(100);
            if (chance < 4) feedText();
            else if (chance < 40) {
                change();
                int what = r.nextInt(9);
                due("told " + what, x.told(what), m.told(what));
            }
            else if (chance < 50) tellByHand();
            else if (chance < 80) askAll();
            else if (chance < 88) act();
            else tapes();
        }
    }

    public static void main(String[] args) {
        int runs = args.length > 0 ? Integer.parseInt(args[0]) : RUNS;
        for (int run = 1; run <= runs; run++) new ModelRuns(run).go();
        Check.end("ModelRuns");
    }
}
