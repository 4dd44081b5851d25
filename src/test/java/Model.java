import java.util.ArrayList;
import java.util.HashMap;
import java.util.List;
import java.util.Map;

/**
 * The document once more, slowly: minute by minute, with texts read by trying, and no sums kept. It shares
 * nothing with NineWindows, so that ModelRuns can set the one against the other.
 */
final class Model {
    static final class W {
        int kind, v, floor, room, takes;
        boolean shut;
        int[] row = new int[4];

        W copy() {
            W w = new W();
            w.kind = kind;
            w.v = v;
            w.floor = floor;
            w.room = room;
            w.takes = takes;
            w.shut = shut;
            w.row = row.clone();
            return w;
        }
    }

    static final class S {
        List<W> ws = new ArrayList<>();
        int comes = 20, side = 0, minute = 0, wet = 0, floor = 0, room = 0;
        List<Integer> round = new ArrayList<>();
        List<int[]> seen = new ArrayList<>();
        List<int[]> book = new ArrayList<>();
        String house = null;

        S copy() {
            S s = new S();
            for (W w : ws) s.ws.add(w.copy());
            s.comes = comes;
            s.side = side;
            s.minute = minute;
            s.wet = wet;
            s.floor = floor;
            s.room = room;
            s.round.addAll(round);
            for (int[] r : seen) s.seen.add(r.clone());
            for (int[] r : book) s.book.add(r.clone());
            s.house = house;
            return s;
        }
    }

    S s = new S();
    private S kept = null;
    private final StringBuilder text = new StringBuilder();
    private int houses = 0;
    private List<Integer> ran = new ArrayList<>();
    private final Object[] tapes = new Object[6];

    // ---- texts

    static boolean isHouse(String t) {
        String[] clauses = t.split(";", -1);
        if (clauses.length > 10) return false;
        for (String c : clauses) {
            if (c.matches("(stair|last) [0-9]{1,2}")) continue;
            if (!c.matches("(?s)(wet|dry) [0-9]{1,2} .*")) return false;
            if (!isE(c.split(" ", 3)[2], 0)) return false;
        }
        return true;
    }

    static List<String> split(String e, char by) {
        List<String> parts = new ArrayList<>();
        int depth = 0;
        int first = 0;
        for (int i = 0; i < e.length(); i++) {
            char c = e.charAt(i);
            if (c == '(') depth++;
            if (c == ')') depth--;
            if (c == by && depth == 0) {
                parts.add(e.substring(first, i));
                first = i + 1;
            }
        }
        parts.add(e.substring(first));
        return parts;
    }

    static boolean isE(String e, int within) {
        for (String t : split(e, '|')) {
            for (String f : split(t, '&')) if (!isF(f, within)) return false;
        }
        return true;
    }

    static boolean isF(String f, int within) {
        if (f.matches("[wkfrst][<=>][0-9]{1,2}")) return true;
        if (within >= 4 || f.length() < 2) return false;
        if (f.charAt(0) == '!') return isF(f.substring(1), within + 1);
        if (f.charAt(0) != '(' || f.charAt(f.length() - 1) != ')') return false;
        return isE(f.substring(1, f.length() - 1), within + 1);
    }

    private static final List<String> ENDS = new ArrayList<>();

    static {
        for (String base : new String[] {"wet 1 w=1", "dry 1 w=1", "stair 1", "last 1"}) {
            for (int i = 0; i <= base.length(); i++) {
                for (int n = 0; n <= 4; n++) ENDS.add(base.substring(i) + "))))".substring(4 - n));
            }
        }
    }

    static boolean begins(String t) {
        for (String end : ENDS) if (isHouse(t + end)) return true;
        return false;
    }

    /** -1: it is a HOUSE. */
    static int fault(String t) {
        if (isHouse(t)) return -1;
        for (int i = 0; i < t.length(); i++) if (!begins(t.substring(0, i + 1))) return i;
        return t.length();
    }

    static int lastOf(String house, String word, int without) {
        int n = without;
        if (house == null) return n;
        for (String c : house.split(";")) if (c.startsWith(word + " ")) n = Integer.parseInt(c.split(" ")[1]);
        return n;
    }

    static boolean holdsE(String e, int[] facts) {
        for (String t : split(e, '|')) {
            boolean all = true;
            for (String f : split(t, '&')) all &= holdsF(f, facts);
            if (all) return true;
        }
        return false;
    }

    static boolean holdsF(String f, int[] facts) {
        if (f.charAt(0) == '!') return !holdsF(f.substring(1), facts);
        if (f.charAt(0) == '(') return holdsE(f.substring(1, f.length() - 1), facts);
        int fact = facts["wkfrst".indexOf(f.charAt(0))];
        int n = Integer.parseInt(f.substring(2));
        return f.charAt(1) == '<' ? fact < n : f.charAt(1) == '=' ? fact == n : fact > n;
    }

    private final Map<String, Map<Integer, Integer>> rains = new HashMap<>();

    int rain(S s, int w, int there) {
        W p = s.ws.get(w);
        if (s.house == null) return 3;
        int key = ((((w * 7 + p.kind) * 4 + p.floor) * 5 + p.room) * 4 + s.side) * 100 + there;
        Map<Integer, Integer> known = rains.computeIfAbsent(s.house, h -> new HashMap<>());
        Integer r = known.get(key);
        if (r == null) {
            int n = 3;
            int[] facts = {w, p.kind, p.floor, p.room, s.side, Math.min(there, 99)};
            for (String c : s.house.split(";")) {
                boolean wet = c.startsWith("wet");
                if (!wet && !c.startsWith("dry")) continue;
                String[] parts = c.split(" ");
                if (holdsE(parts[2], facts)) n += (wet ? 1 : -1) * Integer.parseInt(parts[1]);
            }
            r = Math.max(0, n);
            known.put(key, r);
        }
        return r;
    }

    int stair() {
        return lastOf(s.house, "stair", 2);
    }

    // ---- minutes

    int harm(S s, int w, int minute) {
        W p = s.ws.get(w);
        int last = lastOfCached(s);
        if (p.shut || minute < s.comes || minute >= s.comes + last) return 0;
        int rain = rain(s, w, minute - s.comes);
        if (p.kind == 0 || p.kind == 1) return rain;
        if (p.kind == 2) return rain / 2;
        if (p.kind == 3) return 2 * rain;
        if (p.kind == 5) return s.side == p.v % 4 ? rain / 2 : 0;
        if (p.kind == 6) return 2 * rain + p.row[minute % 4];
        for (int d = 0; d < s.ws.size(); d++) {
            if (d != w && s.ws.get(d).kind == 4 && !s.ws.get(d).shut) return rain + p.v;
        }
        return rain;
    }

    private String lastHouse = "";
    private int lastLast = 0;

    private int lastOfCached(S s) {
        String h = s.house == null ? "none" : s.house;
        if (!h.equals(lastHouse)) {
            lastHouse = h;
            lastLast = lastOf(s.house, "last", 15);
        }
        return lastLast;
    }

    int harmAll(S s, int minute) {
        int sum = 0;
        for (int w = 0; w < s.ws.size(); w++) sum += harm(s, w, minute);
        return sum;
    }

    int way(S s, int w, int floor, int room) {
        W p = s.ws.get(w);
        return stair() * Math.abs(p.floor - floor) + Math.abs(p.room - room);
    }

    int takes(S s, int w, int floor, int room) {
        W p = s.ws.get(w);
        return way(s, w, floor, room) + (p.kind == 1 || p.kind == 4 ? 2 : 1) * p.takes;
    }

    /** Goes on, minute by minute, while rows of windows are shut by people who begin here: {COST, END}. */
    int[] goOn(S from, List<List<Integer>> rows, int wait, Map<Integer, Integer> when) {
        S t = from.copy();
        int end = t.minute;
        for (List<Integer> row : rows) {
            int at = t.minute + wait;
            int floor = t.floor;
            int room = t.room;
            for (int w : row) {
                if (t.ws.get(w).shut) continue;
                at += takes(t, w, floor, room);
                when.put(w, at);
                floor = t.ws.get(w).floor;
                room = t.ws.get(w).room;
                end = Math.max(end, at);
            }
        }
        int cost = 0;
        int over = Math.max(end, t.comes + lastOfCached(t));
        for (int m = t.minute; m < over; m++) {
            for (Map.Entry<Integer, Integer> e : when.entrySet()) {
                if (e.getValue() <= m) t.ws.get(e.getKey()).shut = true;
            }
            cost += harmAll(t, m);
        }
        return new int[] {cost, end};
    }

    int cost(S from, List<Integer> row, int wait) {
        return goOn(from, List.of(row), wait, new HashMap<>())[0];
    }

    int wetMore(int n) {
        int wet = s.wet;
        for (int m = 0; m < n; m++) wet = Math.min(999999, wet + harmAll(s, s.minute + m));
        return wet - s.wet;
    }

    boolean has(int w) {
        return w >= 0 && w < s.ws.size();
    }

    static boolean in(int n, int a, int b) {
        return n >= a && n <= b;
    }

    // ---- the face

    int window(int kind, int v, int floor, int room, int takes) {
        if (!in(kind, 0, 6)) return -1;
        if (!in(v, 0, 9) || !in(floor, 0, 3) || !in(room, 0, 4) || !in(takes, 1, 9)) return -2;
        if (s.ws.size() == 7) return -4;
        W w = new W();
        w.kind = kind;
        w.v = v;
        w.floor = floor;
        w.room = room;
        w.takes = takes;
        s.ws.add(w);
        return s.ws.size() - 1;
    }

    int of(int w, int what) {
        if (!has(w) || !in(what, 0, 7)) return -1;
        W p = s.ws.get(w);
        int[] all = {p.kind, p.v, p.floor, p.room, p.takes, p.shut ? 1 : 0, way(s, w, s.floor, s.room),
            harm(s, w, s.minute)};
        return all[what];
    }

    int put(int w, boolean shut) {
        if (!has(w)) return -1;
        int was = s.ws.get(w).shut ? 1 : 0;
        s.ws.get(w).shut = shut;
        return was;
    }

    int row(int w, int part, int n) {
        if (!has(w) || !in(part, 0, 3)) return -1;
        if (!in(n, 0, 9)) return -2;
        if (s.ws.get(w).kind != 6) return -3;
        int was = s.ws.get(w).row[part];
        s.ws.get(w).row[part] = n;
        return was;
    }

    int storm(int comes, int side) {
        if (!in(side, 0, 3)) return -1;
        if (!in(comes, 0, 99)) return -2;
        int was = s.comes;
        s.comes = comes;
        s.side = side;
        return was;
    }

    int stand(int floor, int room) {
        if (!in(floor, 0, 3) || !in(room, 0, 4)) return -2;
        s.floor = floor;
        s.room = room;
        return 1;
    }

    int feed(int sign) {
        if (!in(sign, 0, 127)) return -2;
        if (text.length() == 100) return -4;
        text.append((char) sign);
        return text.length();
    }

    int house() {
        if (houses == 6) return -4;
        String t = text.toString();
        text.setLength(0);
        int fault = fault(t);
        if (fault >= 0) return -10 - fault;
        s.house = t;
        return houses++;
    }

    int told(int what) {
        if (!in(what, 0, 8)) return -1;
        int open = 0;
        for (int w = 0; w < s.ws.size(); w++) if (!s.ws.get(w).shut) open += 1 << w;
        int[] all = {s.minute, s.wet, s.comes, s.side, stair(), lastOfCached(s), s.floor, s.room, open};
        return all[what];
    }

    int pass(int n) {
        if (!in(n, 0, 99)) return -2;
        if (s.minute + n > 9999) return -3;
        int more = wetMore(n);
        s.wet += more;
        s.minute += n;
        return more;
    }

    int shut(int w) {
        if (!has(w)) return -1;
        int n = takes(s, w, s.floor, s.room);
        if (s.ws.get(w).shut || s.minute + n > 9999) return -3;
        s.wet += wetMore(n);
        s.minute += n;
        s.ws.get(w).shut = true;
        s.floor = s.ws.get(w).floor;
        s.room = s.ws.get(w).room;
        return n;
    }

    int on(int n) {
        return in(n, 0, 99) ? wetMore(n) : -2;
    }

    int add(int w) {
        if (w == -1) {
            s.round.clear();
            return 0;
        }
        if (!has(w)) return -1;
        if (s.round.contains(w)) return -2;
        s.round.add(w);
        return s.round.size();
    }

    int round(int what) {
        if (!in(what, 0, 2)) return -1;
        Map<Integer, Integer> when = new HashMap<>();
        int[] costEnd = goOn(s, List.of(s.round), 0, when);
        if (what < 2) return costEnd[what];
        int n = 0;
        for (int w : s.round) if (s.ws.get(w).shut || when.get(w) <= s.comes) n++;
        return n;
    }

    private List<Integer> best;
    private int bestCost;

    private void tryRounds(List<Integer> row, List<Integer> open) {
        if (row.size() == open.size()) {
            int c = cost(s, row, 0);
            if (best == null || c < bestCost) {
                best = new ArrayList<>(row);
                bestCost = c;
            }
            return;
        }
        for (int w : open) {
            if (row.contains(w)) continue;
            row.add(w);
            tryRounds(row, open);
            row.remove(row.size() - 1);
        }
    }

    private List<Integer> open() {
        List<Integer> open = new ArrayList<>();
        for (int w = 0; w < s.ws.size(); w++) if (!s.ws.get(w).shut) open.add(w);
        return open;
    }

    int best(int k) {
        if (!in(k, -1, 4)) return -1;
        List<Integer> open = open();
        if (open.size() > 5) return -9;
        best = null;
        tryRounds(new ArrayList<>(), open);
        if (k == -1) return bestCost;
        return k < best.size() ? best.get(k) : -5;
    }

    int next() {
        int found = -5;
        int least = Integer.MAX_VALUE;
        for (int w : open()) {
            int c = cost(s, List.of(w), 0);
            if (c < least) {
                least = c;
                found = w;
            }
        }
        return found;
    }

    int late(int q) {
        if (!in(q, 0, 99999)) return -2;
        int found = -5;
        for (int n = 0; n <= 60; n++) if (cost(s, s.round, n) <= q) found = n;
        return found;
    }

    int leave() {
        int bits = 0;
        for (Integer w : s.round) {
            List<Integer> without = new ArrayList<>(s.round);
            without.remove(w);
            if (cost(s, without, 0) <= cost(s, s.round, 0)) bits += 1 << w;
        }
        return bits;
    }

    int two(int what) {
        if (!in(what, 0, 1)) return -1;
        int n = s.round.size();
        List<Integer> hers = s.round.subList(0, n - n / 2);
        return goOn(s, List.of(hers, s.round.subList(n - n / 2, n)), 0, new HashMap<>())[what];
    }

    int worth(int w) {
        if (!has(w)) return -1;
        S t = s.copy();
        t.ws.get(w).shut = true;
        return cost(s, List.of(), 0) - cost(t, List.of(), 0);
    }

    int sides(int what) {
        if (!in(what, 0, 1)) return -1;
        int[] found = {0, -1};
        S t = s.copy();
        for (t.side = 0; t.side < 4; t.side++) {
            int c = cost(t, List.of(), 0);
            if (c > found[1]) found = new int[] {t.side, c};
        }
        return found[what];
    }

    int begin(int what) {
        if (!in(what, 0, 1)) return -1;
        int[] found = {0, -1};
        S t = s.copy();
        for (t.comes = 0; t.comes < 100; t.comes++) {
            int c = cost(t, s.round, 0);
            if (c > found[1]) found = new int[] {t.comes, c};
        }
        return found[what];
    }

    int see(int w, int harm) {
        return append(s.seen, w, harm, 6);
    }

    int book(int w, int minute) {
        return append(s.book, w, minute, 8);
    }

    private int append(List<int[]> rows, int w, int n, int most) {
        if (w == -1) {
            rows.clear();
            return 0;
        }
        if (!has(w)) return -1;
        if (!in(n, 0, 9999)) return -2;
        if (rows.size() == most) return -4;
        rows.add(new int[] {w, n});
        return rows.size();
    }

    int harmFromNowOn(S t, int w) {
        int sum = 0;
        for (int m = t.minute; m < t.comes + lastOfCached(t); m++) sum += harm(t, w, m);
        return sum;
    }

    int from() {
        int bits = 0;
        S t = s.copy();
        for (t.side = 0; t.side < 4; t.side++) {
            boolean all = true;
            for (int[] r : s.seen) all &= harmFromNowOn(t, r[0]) == r[1];
            if (all) bits += 1 << t.side;
        }
        return bits;
    }

    static long lowest(long a, long b, int part) {
        long g = 1;
        for (long n = 1; n <= b; n++) if (a % n == 0 && b % n == 0) g = n;
        return part == 0 ? a / g : b / g;
    }

    long odds(int q, int part) {
        if (!in(q, 0, 99999) || !in(part, 0, 1)) return Long.MIN_VALUE;
        int fit = 0;
        S t = s.copy();
        for (t.side = 0; t.side < 4; t.side++) if (cost(t, s.round, 0) <= q) fit++;
        return lowest(fit, 4, part);
    }

    long mean(int part) {
        if (!in(part, 0, 1)) return Long.MIN_VALUE;
        long sum = 0;
        S t = s.copy();
        for (int n = 0; n < 10; n++) {
            t.comes = s.comes + n;
            sum += cost(t, s.round, 0);
        }
        return lowest(sum, 10, part);
    }

    int looked() {
        Map<Integer, Integer> when = new HashMap<>();
        goOn(s, List.of(s.round), 0, when);
        for (int i = 0; i < s.book.size(); i++) {
            int[] r = s.book.get(i);
            if (s.ws.get(r[0]).shut) continue;
            if (!when.containsKey(r[0]) || when.get(r[0]) > r[1]) return i;
        }
        return -5;
    }

    int judge(int tape, int i) {
        if (!in(tape, 0, 5)) return -1;
        if (tapes[tape] != null && !(tapes[tape] instanceof boolean[])) return -12;
        boolean[] row = tapes[tape] == null || i < 0 ? new boolean[0] : (boolean[]) tapes[tape];
        for (int w = 0; w < s.ws.size(); w++) {
            long place = (long) i + w;
            if (place >= row.length || place < 0) return 100 + w;
            if (row[(int) place] != s.ws.get(w).shut) return w;
        }
        return -5;
    }

    int image() {
        kept = s.copy();
        return s.ws.size();
    }

    int undo() {
        if (kept == null) return -3;
        s = kept.copy();
        return s.ws.size();
    }

    // ---- acts: the kinds as Java's own classes

    private static class Window {
        final int i, v;
        final List<Integer> ran;

        Window(int i, int v, List<Integer> ran) {
            this.i = i;
            this.v = v;
            this.ran = ran;
        }

        int opens(int x) {
            ran.add(10);
            return x + i;
        }

        int shuts(int x) {
            ran.add(11);
            return opens(x) - v;
        }

        int tells(int x) {
            ran.add(12);
            return shuts(x) * 2;
        }
    }

    private static class Sticking extends Window {
        Sticking(int i, int v, List<Integer> ran) {
            super(i, v, ran);
        }

        @Override
        int shuts(int x) {
            ran.add(20);
            return super.shuts(x) ^ 6;
        }
    }

    private static class Sheltered extends Window {
        Sheltered(int i, int v, List<Integer> ran) {
            super(i, v, ran);
        }

        @Override
        int opens(int x) {
            ran.add(30);
            return super.opens(x * 3);
        }
    }

    private static class Garret extends Window {
        Garret(int i, int v, List<Integer> ran) {
            super(i, v, ran);
        }

        @Override
        int tells(int x) {
            ran.add(40);
            return super.tells(x) + shuts(1);
        }
    }

    private static final class Door extends Sticking {
        Door(int i, int v, List<Integer> ran) {
            super(i, v, ran);
        }

        @Override
        int opens(int x) {
            ran.add(50);
            return -super.opens(x);
        }

        @Override
        int shuts(int x) {
            ran.add(51);
            return super.shuts(x + 1);
        }
    }

    private static final class Lee extends Sheltered {
        Lee(int i, int v, List<Integer> ran) {
            super(i, v, ran);
        }

        @Override
        int tells(int x) {
            ran.add(60);
            return super.tells(x - i);
        }
    }

    private static final class Told extends Garret {
        Told(int i, int v, List<Integer> ran) {
            super(i, v, ran);
        }

        @Override
        int shuts(int x) {
            ran.add(70);
            return super.shuts(x) + super.opens(2);
        }

        @Override
        int opens(int x) {
            ran.add(71);
            return super.opens(x) ^ v;
        }
    }

    private Window asKind(int w) {
        int v = s.ws.get(w).v;
        switch (s.ws.get(w).kind) {
            case 0: return new Window(w, v, ran);
            case 1: return new Sticking(w, v, ran);
            case 2: return new Sheltered(w, v, ran);
            case 3: return new Garret(w, v, ran);
            case 4: return new Door(w, v, ran);
            case 5: return new Lee(w, v, ran);
            default: return new Told(w, v, ran);
        }
    }

    int act(int w, int act, int x) {
        ran = new ArrayList<>();
        if (!has(w) || !in(act, 0, 2)) return 0;
        Window a = asKind(w);
        return act == 0 ? a.opens(x) : act == 1 ? a.shuts(x) : a.tells(x);
    }

    int trace(int i) {
        return i >= 0 && i < ran.size() && i < 20 ? ran.get(i) : -1;
    }

    int taken(int w, int k) {
        if (!in(k, 0, 6)) return -2;
        if (!has(w)) return -11;
        Class<?>[] kinds = {Window.class, Sticking.class, Sheltered.class, Garret.class, Door.class, Lee.class,
            Told.class};
        return kinds[k].isInstance(asKind(w)) ? s.ws.get(w).kind : -12;
    }

    int count(int what) {
        if (!in(what, 0, 6)) return -2;
        int[] all = {s.ws.size(), houses, s.round.size(), s.seen.size(), s.book.size(), text.length(), ran.size()};
        return all[what];
    }

    // ---- tapes: Java's own arrays

    int tape(int tape, int sort, int n) {
        if (!in(tape, 0, 5)) return -1;
        if (!in(sort, -1, 4)) return -2;
        if (sort == -1) {
            tapes[tape] = null;
            return 1;
        }
        if (n > 60) return -2;
        if (n < 0) return -14;
        tapes[tape] = sort == 0 ? new byte[n] : sort == 1 ? new short[n] : sort == 2 ? new int[n]
            : sort == 3 ? new long[n] : (Object) new boolean[n];
        return 1;
    }

    int item(int tape, int i, long v) {
        if (!in(tape, 0, 5)) return -1;
        Object t = tapes[tape];
        if (t == null) return -11;
        if (i < 0 || i >= java.lang.reflect.Array.getLength(t)) return -13;
        if (t instanceof byte[]) ((byte[]) t)[i] = (byte) v;
        if (t instanceof short[]) ((short[]) t)[i] = (short) v;
        if (t instanceof int[]) ((int[]) t)[i] = (int) v;
        if (t instanceof long[]) ((long[]) t)[i] = v;
        if (t instanceof boolean[]) ((boolean[]) t)[i] = v != 0;
        return 1;
    }

    long read(int tape, int i) {
        if (!in(tape, 0, 5) || tapes[tape] == null) return Long.MIN_VALUE;
        Object t = tapes[tape];
        if (i < 0 || i >= java.lang.reflect.Array.getLength(t)) return Long.MIN_VALUE;
        if (t instanceof boolean[]) return ((boolean[]) t)[i] ? 1 : 0;
        return java.lang.reflect.Array.getLong(t, i);
    }

    int shift(int tape, int i, int other, int j, int n) {
        if (!in(tape, 0, 5) || !in(other, 0, 5)) return -1;
        if (tapes[tape] == null || tapes[other] == null) return -11;
        if (tapes[tape].getClass() != tapes[other].getClass()) return -12;
        try {
            System.arraycopy(tapes[tape], i, tapes[other], j, n);
        } catch (IndexOutOfBoundsException e) {
            return -13;
        }
        return n;
    }
}
