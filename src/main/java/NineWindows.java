/**
 * Nine windows and a storm: windows of a house, a storm that comes from a side, and somebody who goes
 * from one to the next and shuts them. Words in capitals are those of the document's "Terms".
 */
public final class NineWindows {
    public static final int NONE = -1, BAD = -2, STATE = -3, FULL = -4;
    public static final long NO = Long.MIN_VALUE;

    private static final int NO_ANSWER = -5, TOO_MANY_OPEN = -9, FAULT_AT_0 = -10;
    private static final int NOTHING = -11, CAST = -12, PLACE = -13, SIZE = -14;
    private static final int WINDOWS = 7, HOUSES = 6, TAPES = 6, SIDES = 4;
    private static final int MOST_MINUTE = 9999, MOST_WET = 999999, MOST_COST_ASKED = 99999;
    private static final int MOST_TOLD = 9999, MOST_GO = 99, LAST_COMES = 99, LONGEST_WAIT = 60;
    private static final int ROW_ENDED = 100;

    private final House[] houses = new House[HOUSES];
    private int houseCount = 0;
    private final Reader reader = new Reader();
    private final Scene scene = new Scene();
    private final Scene kept = new Scene();
    private boolean isKept = false;
    private final Forecast forecast = new Forecast(scene);
    private final Acts acts = new Acts();
    private final Tape[] tapes = new Tape[TAPES];

    public NineWindows() {
        for (int i = 0; i < HOUSES; i++) houses[i] = new House();
        for (int i = 0; i < TAPES; i++) tapes[i] = new Tape();
    }

    // ---- windows, houses, storms

    public int window(int kind, int v, int floor, int room, int takes) {
        if (!within(kind, 0, Kind.TOLD)) return NONE;
        if (!within(v, 0, 9) || !isPlace(floor, room) || !within(takes, 1, 9)) return BAD;
        if (scene.windows >= WINDOWS) return FULL;
        int number = scene.windows++;
        scene.panes[number].becomeNew(kind, v, floor, room, takes);
        forecast.forget();
        return number;
    }

    public int of(int window, int what) {
        if (!scene.has(window)) return NONE;
        Pane pane = scene.panes[window];
        switch (what) {
            case 0: return pane.kind;
            case 1: return pane.v;
            case 2: return pane.floor;
            case 3: return pane.room;
            case 4: return pane.takes;
            case 5: return pane.isShut ? 1 : 0;
            case 6: return pane.wayFrom(scene.floor, scene.room, scene.holding.stair);
            case 7:
                forecast.beginFromNow();
                return forecast.harmOf(window, scene.minute, scene.minute + 1);
            default:
                return NONE;
        }
    }

    public int put(int window, boolean isShut) {
        if (!scene.has(window)) return NONE;
        Pane pane = scene.panes[window];
        int was = pane.isShut ? 1 : 0;
        pane.isShut = isShut;
        return was;
    }

    public int row(int window, int part, int n) {
        if (!scene.has(window) || !within(part, 0, Pane.PARTS - 1)) return NONE;
        if (!within(n, 0, 9)) return BAD;
        Pane pane = scene.panes[window];
        if (pane.kind != Kind.TOLD) return STATE;
        int was = pane.row[part];
        pane.row[part] = n;
        return was;
    }

    public int storm(int comes, int side) {
        if (!within(side, 0, SIDES - 1)) return NONE;
        if (!within(comes, 0, LAST_COMES)) return BAD;
        int was = scene.comes;
        scene.comes = comes;
        scene.side = side;
        return was;
    }

    public int stand(int floor, int room) {
        if (!isPlace(floor, room)) return BAD;
        scene.floor = floor;
        scene.room = room;
        return 1;
    }

    public int feed(int sign) {
        if (!within(sign, 0, 127)) return BAD;
        if (reader.length >= Reader.MOST_SIGNS) return FULL;
        reader.text[reader.length] = sign;
        reader.length++;
        return reader.length;
    }

    public int house() {
        if (houseCount >= HOUSES) return FULL;
        boolean isRead = reader.readInto(houses[houseCount]);
        reader.length = 0;
        if (!isRead) return FAULT_AT_0 - reader.at;
        int number = houseCount++;
        scene.holding = houses[number];
        forecast.forget();
        return number;
    }

    public int told(int what) {
        switch (what) {
            case 0: return scene.minute;
            case 1: return scene.wet;
            case 2: return scene.comes;
            case 3: return scene.side;
            case 4: return scene.holding.stair;
            case 5: return scene.holding.last;
            case 6: return scene.floor;
            case 7: return scene.room;
            case 8: return scene.openBits();
            default: return NONE;
        }
    }

    // ---- minutes

    public int pass(int n) {
        if (!within(n, 0, MOST_GO)) return BAD;
        if (scene.minute + n > MOST_MINUTE) return STATE;
        forecast.beginFromNow();
        return go(n);
    }

    public int shut(int window) {
        if (!scene.has(window)) return NONE;
        Pane pane = scene.panes[window];
        int minutes = pane.minutesFrom(scene.floor, scene.room, scene.holding.stair);
        if (pane.isShut || scene.minute + minutes > MOST_MINUTE) return STATE;
        forecast.beginFromNow();
        go(minutes);
        pane.isShut = true;
        scene.floor = pane.floor;
        scene.room = pane.room;
        return minutes;
    }

    public int on(int n) {
        if (!within(n, 0, MOST_GO)) return BAD;
        forecast.beginFromNow();
        return wetMore(n);
    }

    // ---- rounds

    public int add(int window) {
        if (window == -1) return scene.round.clear();
        if (!scene.has(window)) return NONE;
        if (scene.round.names(window)) return BAD;
        if (scene.round.isFull()) return FULL;
        return scene.round.append(window, 0);
    }

    public int round(int what) {
        if (!within(what, 0, 2)) return NONE;
        forecast.beginFromNow();
        int end = forecast.goRound(0);
        if (what == 0) return forecast.cost();
        return what == 1 ? end : forecast.shutInTime();
    }

    public int best(int k) {
        if (!within(k, -1, Forecast.MOST_SOUGHT - 1)) return NONE;
        int open = Integer.bitCount(scene.openBits());
        if (open > Forecast.MOST_SOUGHT) return TOO_MANY_OPEN;
        if (k >= open) return NO_ANSWER;
        forecast.beginFromNow();
        forecast.seekBest();
        return k == -1 ? forecast.bestCost : forecast.best.window[k];
    }

    public int next() {
        forecast.beginFromNow();
        int found = NO_ANSWER;
        int least = 0;
        for (int w = 0; w < scene.windows; w++) {
            if (scene.panes[w].isShut) continue;
            int cost = forecast.costOfOne(w);
            if (found == NO_ANSWER || cost < least) {
                found = w;
                least = cost;
            }
        }
        return found;
    }

    public int late(int q) {
        if (!within(q, 0, MOST_COST_ASKED)) return BAD;
        forecast.beginFromNow();
        for (int wait = LONGEST_WAIT; wait >= 0; wait--) {
            if (forecast.costOfRound(wait) <= q) return wait;
        }
        return NO_ANSWER;
    }

    public int leave() {
        forecast.beginFromNow();
        int whole = forecast.costOfRound(0);
        int bits = 0;
        for (int i = 0; i < scene.round.count; i++) {
            if (forecast.costWithout(i) <= whole) bits |= 1 << scene.round.window[i];
        }
        return bits;
    }

    public int two(int what) {
        if (!within(what, 0, 1)) return NONE;
        forecast.beginFromNow();
        int end = forecast.goAsTwo();
        return what == 0 ? forecast.cost() : end;
    }

    // ---- worth, sides, beginnings

    public int worth(int window) {
        if (!scene.has(window)) return NONE;
        forecast.beginFromNow();
        int open = forecast.cost();
        forecast.shutAt[window] = Forecast.NOW;
        return open - forecast.cost();
    }

    public int sides(int what) {
        if (!within(what, 0, 1)) return NONE;
        forecast.beginFromNow();
        int worst = 0;
        int most = -1;
        for (int side = 0; side < SIDES; side++) {
            forecast.turnTo(side);
            int cost = forecast.cost();
            if (cost > most) {
                most = cost;
                worst = side;
            }
        }
        return what == 0 ? worst : most;
    }

    public int begin(int what) {
        if (!within(what, 0, 1)) return NONE;
        forecast.beginFromNow();
        forecast.goRound(0);
        int worst = 0;
        int most = -1;
        for (int comes = 0; comes <= LAST_COMES; comes++) {
            forecast.comes = comes;
            int cost = forecast.cost();
            if (cost > most) {
                most = cost;
                worst = comes;
            }
        }
        return what == 0 ? worst : most;
    }

    // ---- seen, odds, books

    public int see(int window, int harm) {
        return appendTold(scene.seen, window, harm);
    }

    public int from() {
        forecast.beginFromNow();
        int bits = 0;
        for (int side = 0; side < SIDES; side++) {
            forecast.turnTo(side);
            if (forecast.isAsSeen()) bits |= 1 << side;
        }
        return bits;
    }

    public long odds(int q, int part) {
        if (!within(q, 0, MOST_COST_ASKED) || !within(part, 0, 1)) return NO;
        forecast.beginFromNow();
        forecast.goRound(0);
        int fit = 0;
        for (int side = 0; side < SIDES; side++) {
            forecast.turnTo(side);
            if (forecast.cost() <= q) fit++;
        }
        return partOf(fit, SIDES, part);
    }

    public long mean(int part) {
        if (!within(part, 0, 1)) return NO;
        forecast.beginFromNow();
        forecast.goRound(0);
        int together = 0;
        for (int more = 0; more < 10; more++) {
            forecast.comes = scene.comes + more;
            together += forecast.cost();
        }
        return partOf(together, 10, part);
    }

    public int book(int window, int minute) {
        return appendTold(scene.book, window, minute);
    }

    public int looked() {
        forecast.beginFromNow();
        forecast.goRound(0);
        for (int i = 0; i < scene.book.count; i++) {
            if (forecast.shutAt[scene.book.window[i]] > scene.book.number[i]) return i;
        }
        return NO_ANSWER;
    }

    // ---- judging, the image, acts, tapes

    public int judge(int tape, int i) {
        if (!isTape(tape)) return NONE;
        Tape row = tapes[tape];
        if (!row.isNothing() && row.sort != Tape.BOOLEANS) return CAST;
        for (int w = 0; w < scene.windows; w++) {
            if (i < 0 || i >= row.length - w) return ROW_ENDED + w;
            boolean isShut = row.items[i + w] != 0;
            if (isShut != scene.panes[w].isShut) return w;
        }
        return NO_ANSWER;
    }

    public int image() {
        kept.becomeAs(scene);
        isKept = true;
        return scene.windows;
    }

    public int undo() {
        if (!isKept) return STATE;
        scene.becomeAs(kept);
        forecast.forget();
        return scene.windows;
    }

    public int act(int window, int act, int x) {
        acts.ran = 0;
        if (!scene.has(window) || !within(act, 0, Acts.ACTS - 1)) return 0;
        return acts.perform(scene.panes[window], window, act, x);
    }

    public int trace(int i) {
        if (i < 0 || i >= acts.ran || i >= Acts.MOST_KEPT) return NONE;
        return acts.trace[i];
    }

    public int taken(int window, int k) {
        if (!within(k, 0, Kind.TOLD)) return BAD;
        if (!scene.has(window)) return NOTHING;
        int kind = scene.panes[window].kind;
        return Kind.isUnder(kind, k) ? kind : CAST;
    }

    public int count(int what) {
        switch (what) {
            case 0: return scene.windows;
            case 1: return houseCount;
            case 2: return scene.round.count;
            case 3: return scene.seen.count;
            case 4: return scene.book.count;
            case 5: return reader.length;
            case 6: return acts.ran;
            default: return BAD;
        }
    }

    public int tape(int tape, int sort, int n) {
        if (!isTape(tape)) return NONE;
        if (sort == Tape.NO_SORT) {
            tapes[tape].become(Tape.NO_SORT, 0);
            return 1;
        }
        if (!within(sort, 0, Tape.BOOLEANS) || n > Tape.MOST_ITEMS) return BAD;
        if (n < 0) return SIZE;
        tapes[tape].become(sort, n);
        return 1;
    }

    public int item(int tape, int i, long v) {
        if (!isTape(tape)) return NONE;
        Tape row = tapes[tape];
        if (row.isNothing()) return NOTHING;
        if (!row.hasPlace(i)) return PLACE;
        row.items[i] = row.asItem(v);
        return 1;
    }

    public long read(int tape, int i) {
        if (!isTape(tape) || !tapes[tape].hasPlace(i)) return NO;
        return tapes[tape].items[i];
    }

    public int shift(int tape, int i, int other, int j, int n) {
        if (!isTape(tape) || !isTape(other)) return NONE;
        Tape source = tapes[tape];
        Tape target = tapes[other];
        if (source.isNothing() || target.isNothing()) return NOTHING;
        if (source.sort != target.sort) return CAST;
        if (!source.hasSpan(i, n) || !target.hasSpan(j, n)) return PLACE;
        System.arraycopy(source.items, i, target.items, j, n);
        return n;
    }

    // ---- what several of these calls share

    private static boolean within(int n, int least, int most) {
        return n >= least && n <= most;
    }

    private static boolean isPlace(int floor, int room) {
        return within(floor, 0, 3) && within(room, 0, 4);
    }

    private static boolean isTape(int tape) {
        return within(tape, 0, TAPES - 1);
    }

    /** By the forecast. WET is 999999 at most, so it may become more by less than all HARM together. */
    private int wetMore(int minutes) {
        int more = forecast.harmOfAll(scene.minute, scene.minute + minutes);
        return Math.min(more, MOST_WET - scene.wet);
    }

    private int go(int minutes) {
        int more = wetMore(minutes);
        scene.wet += more;
        scene.minute += minutes;
        return more;
    }

    private int appendTold(Rows rows, int window, int number) {
        if (window == -1) return rows.clear();
        if (!scene.has(window)) return NONE;
        if (!within(number, 0, MOST_TOLD)) return BAD;
        if (rows.isFull()) return FULL;
        return rows.append(window, number);
    }

    private static long partOf(int above, int below, int part) {
        int shared = greatestShared(above, below);
        return part == 0 ? above / shared : below / shared;
    }

    /** Of two numbers, the second above 0: the greatest that divides both; so never 0. */
    private static int greatestShared(int a, int b) {
        for (int n = Math.min(Math.max(a, 0), b); n > 1; n--) {
            if (a % n == 0 && b % n == 0) return n;
        }
        return a == 0 ? Math.max(b, 1) : 1;
    }

    /** The KINDS, and which is under which. */
    private static final class Kind {
        static final int WINDOW = 0, STICKING = 1, SHELTERED = 2, GARRET = 3, DOOR = 4, LEE = 5, TOLD = 6;
        private static final int[] ABOVE = {-1, WINDOW, WINDOW, WINDOW, STICKING, SHELTERED, GARRET};

        static int above(int kind) {
            return kind < 0 || kind >= ABOVE.length ? -1 : ABOVE[kind];
        }

        static boolean isUnder(int kind, int high) {
            int k = kind;
            for (int step = 0; step < ABOVE.length && k >= 0; step++) {
                if (k == high) return true;
                k = above(k);
            }
            return false;
        }
    }

    /** One WINDOW with all that is its own. */
    private static final class Pane {
        static final int PARTS = 4;
        int kind = 0, v = 0, floor = 0, room = 0, takes = 1;
        boolean isShut = false;
        final int[] row = new int[PARTS];

        void becomeNew(int itsKind, int itsV, int itsFloor, int itsRoom, int itsTakes) {
            kind = itsKind;
            v = itsV;
            floor = itsFloor;
            room = itsRoom;
            takes = itsTakes;
            isShut = false;
            for (int part = 0; part < PARTS; part++) row[part] = 0;
        }

        void becomeAs(Pane other) {
            becomeNew(other.kind, other.v, other.floor, other.room, other.takes);
            isShut = other.isShut;
            System.arraycopy(other.row, 0, row, 0, PARTS);
        }

        int wayFrom(int herFloor, int herRoom, int stair) {
            return stair * Math.abs(floor - herFloor) + Math.abs(room - herRoom);
        }

        int minutesFrom(int herFloor, int herRoom, int stair) {
            int times = kind == Kind.STICKING || kind == Kind.DOOR ? 2 : 1;
            return wayFrom(herFloor, herRoom, stair) + times * takes;
        }

        /** HARM of a MINUTE with this RAIN, but for what other DOORS and the ROW add. */
        int harmBy(int rain, int side) {
            switch (kind) {
                case Kind.SHELTERED: return rain / 2;
                case Kind.LEE: return side == v % 4 ? rain / 2 : 0;
                case Kind.GARRET:
                case Kind.TOLD: return 2 * rain;
                default: return rain;
            }
        }

        /** What the ROW of a TOLD one adds in these MINUTES (0 or more), together. */
        int rowSum(int begin, int end) {
            int sum = 0;
            for (int part = 0; part < PARTS; part++) {
                int up = PARTS - 1 - part;
                sum += row[part] * ((end + up) / PARTS - (begin + up) / PARTS);
            }
            return sum;
        }
    }

    /** WINDOWS told by hand, one behind the other, each with a number. */
    private static final class Rows {
        int count = 0;
        final int[] window;
        final int[] number;

        Rows(int most) {
            int size = Math.max(most, 0);
            window = new int[size];
            number = new int[size];
        }

        boolean isFull() {
            return count >= window.length;
        }

        int append(int itsWindow, int itsNumber) {
            if (isFull()) return count;
            window[count] = itsWindow;
            number[count] = itsNumber;
            count++;
            return count;
        }

        int clear() {
            count = 0;
            return 0;
        }

        boolean names(int sought) {
            for (int i = 0; i < count; i++) {
                if (window[i] == sought) return true;
            }
            return false;
        }

        void becomeAs(Rows other) {
            clear();
            for (int i = 0; i < other.count; i++) append(other.window[i], other.number[i]);
        }

        /** The next row of the same windows, as rows are ordered; false if this is the last one. */
        boolean permute() {
            int rise = count - 2;
            while (rise >= 0 && window[rise] >= window[rise + 1]) rise--;
            if (rise < 0) return false;
            int higher = count - 1;
            while (higher > rise && window[higher] <= window[rise]) higher--;
            swap(rise, higher);
            for (int i = rise + 1, j = count - 1; i < j; i++, j--) swap(i, j);
            return true;
        }

        private void swap(int i, int j) {
            int held = window[i];
            window[i] = window[j];
            window[j] = held;
        }
    }

    /** All that THE IMAGE keeps. */
    private static final class Scene {
        final Pane[] panes = new Pane[WINDOWS];
        int windows = 0;
        int comes = 20, side = 0;
        int minute = 0, wet = 0;
        int floor = 0, room = 0;
        House holding = new House();
        final Rows round = new Rows(7), seen = new Rows(6), book = new Rows(8);

        Scene() {
            for (int i = 0; i < WINDOWS; i++) panes[i] = new Pane();
        }

        boolean has(int window) {
            return window >= 0 && window < windows;
        }

        int openBits() {
            int bits = 0;
            for (int w = 0; w < windows; w++) {
                if (!panes[w].isShut) bits |= 1 << w;
            }
            return bits;
        }

        void becomeAs(Scene other) {
            windows = other.windows;
            for (int w = 0; w < windows; w++) panes[w].becomeAs(other.panes[w]);
            comes = other.comes;
            side = other.side;
            minute = other.minute;
            wet = other.wet;
            floor = other.floor;
            room = other.room;
            holding = other.holding;
            round.becomeAs(other.round);
            seen.becomeAs(other.seen);
            book.becomeAs(other.book);
        }
    }

    /**
     * A HOUSE: its STAIR, its LAST, and its wet and dry CLAUSES. An E is kept as steps, each test ahead of
     * what joins it, so that it is answered without a tree.
     */
    private static final class House {
        static final int CLAUSES = 10, NOT = -1, AND = -2, OR = -3;
        private static final int LEAST_RAIN = 3;
        int stair = 2, last = 15;
        private int clauses = 0;
        private final int[] amount = new int[CLAUSES];
        private final int[] stepsEnd = new int[CLAUSES];
        private int steps = 0;
        private final int[] step = new int[Reader.MOST_SIGNS];
        private final int[] facts = new int[6];

        void becomeBare() {
            stair = 2;
            last = 15;
            clauses = 0;
            steps = 0;
        }

        void addStep(int what) {
            if (steps >= step.length) return;
            step[steps] = what;
            steps++;
        }

        void addTest(int letter, int sign, int number) {
            addStep((letter * 3 + sign) * 100 + number);
        }

        /** The steps since the clause before this one are this one's. */
        void endClause(int itsAmount) {
            if (clauses >= CLAUSES) return;
            amount[clauses] = itsAmount;
            stepsEnd[clauses] = steps;
            clauses++;
        }

        int rainOn(Pane pane, int window, int side, int there) {
            learn(pane, window, side, there);
            int rain = LEAST_RAIN;
            int first = 0;
            for (int c = 0; c < clauses; c++) {
                if (isTrue(first, stepsEnd[c])) rain += amount[c];
                first = stepsEnd[c];
            }
            return Math.max(rain, 0);
        }

        /** What the tests look at, in the order of the Reader's LETTERS. */
        private void learn(Pane pane, int window, int side, int there) {
            facts[0] = window;
            facts[1] = pane.kind;
            facts[2] = pane.floor;
            facts[3] = pane.room;
            facts[4] = side;
            facts[5] = Math.min(there, 99);
        }

        /** The truths that wait to be joined are bits, the newest lowest: 11 at most wait at once. */
        private boolean isTrue(int first, int end) {
            int truths = 0;
            for (int i = first; i < end; i++) {
                int newest = truths & 1;
                switch (step[i]) {
                    case NOT: truths ^= 1; break;
                    case AND: truths = truths >> 1 & (newest | ~1); break;
                    case OR: truths = truths >> 1 | newest; break;
                    default: truths = truths << 1 | (passes(step[i]) ? 1 : 0);
                }
            }
            return (truths & 1) == 1;
        }

        private boolean passes(int test) {
            int letter = test / 300;
            if (letter < 0 || letter >= facts.length) return false;
            int number = test % 100;
            switch (test / 100 % 3) {
                case 0: return facts[letter] < number;
                case 1: return facts[letter] == number;
                default: return facts[letter] > number;
            }
        }
    }

    /**
     * THE TEXT, and how a HOUSE is read from it. A byte is passed only when some HOUSE goes on with it, so
     * that where reading stops is the FAULT.
     */
    private static final class Reader {
        static final int MOST_SIGNS = 100;
        private static final int DEEPEST = 4, END = -1;
        private static final String LETTERS = "wkfrst", SIGNS = "<=>";
        final int[] text = new int[MOST_SIGNS];
        int length = 0;
        int at = 0;
        private int sign = END;
        private House house = new House();

        boolean readInto(House read) {
            house = read;
            read.becomeBare();
            at = -1;
            goOn();
            for (int clause = 1; clause <= House.CLAUSES; clause++) {
                if (!readClause()) return false;
                if (sign == END) return true;
                if (clause == House.CLAUSES || !readSign(';')) return false;
            }
            return false;
        }

        private boolean readClause() {
            int first = sign;
            String word = wordFrom(first);
            if (word.isEmpty() || !readWord(word)) return false;
            int n = readNumber();
            if (n < 0) return false;
            if (first == 's') house.stair = n;
            if (first == 'l') house.last = n;
            if (first == 's' || first == 'l') return true;
            if (!readSign(' ') || !readAny(0)) return false;
            house.endClause(first == 'w' ? n : -n);
            return true;
        }

        private static String wordFrom(int first) {
            switch (first) {
                case 'w': return "wet ";
                case 'd': return "dry ";
                case 's': return "stair ";
                case 'l': return "last ";
                default: return "";
            }
        }

        /** E. The depth is how many ( and ! are open around it. */
        private boolean readAny(int depth) {
            for (int n = 0; n < MOST_SIGNS; n++) {
                if (!readAll(depth)) return false;
                if (n > 0) house.addStep(House.OR);
                if (!readSign('|')) return true;
            }
            return false;
        }

        /** T. */
        private boolean readAll(int depth) {
            for (int n = 0; n < MOST_SIGNS; n++) {
                if (!readOne(depth)) return false;
                if (n > 0) house.addStep(House.AND);
                if (!readSign('&')) return true;
            }
            return false;
        }

        /** F. */
        private boolean readOne(int depth) {
            int inner = depth;
            while (inner < DEEPEST && readSign('!')) inner++;
            boolean isRead = inner < DEEPEST && readSign('(')
                ? readAny(inner + 1) && readSign(')')
                : readTest();
            if ((inner - depth) % 2 == 1) house.addStep(House.NOT);
            return isRead;
        }

        private boolean readTest() {
            int letter = readOneOf(LETTERS);
            if (letter < 0) return false;
            int compared = readOneOf(SIGNS);
            if (compared < 0) return false;
            int n = readNumber();
            if (n < 0) return false;
            house.addTest(letter, compared, n);
            return true;
        }

        private void goOn() {
            at++;
            sign = at >= 0 && at < length && at < MOST_SIGNS ? text[at] : END;
        }

        private boolean readSign(int wanted) {
            if (sign != wanted) return false;
            goOn();
            return true;
        }

        private boolean readWord(String word) {
            for (int i = 0; i < word.length(); i++) {
                if (!readSign(word.charAt(i))) return false;
            }
            return true;
        }

        /** Which of these signs it was; -1: none of them. */
        private int readOneOf(String signs) {
            int place = sign == END ? -1 : signs.indexOf((char) sign);
            if (place >= 0) goOn();
            return place;
        }

        /** One digit or two; -1: there is none. */
        private int readNumber() {
            if (sign < '0' || sign > '9') return -1;
            int n = sign - '0';
            goOn();
            if (sign < '0' || sign > '9') return n;
            n = 10 * n + sign - '0';
            goOn();
            return n;
        }
    }

    /** How it would go on from now: by a SIDE, a COMES, and the MINUTE at which each WINDOW is SHUT. */
    private static final class Forecast {
        static final int NOW = 0, NEVER = 1000000, MOST_SOUGHT = 5;
        private static final int MOST_ROUNDS = 120, TIMES = 100;
        private final Scene scene;
        private int side = 0;
        int comes = 0;
        final int[] shutAt = new int[WINDOWS];
        private final Rows tried = new Rows(WINDOWS);
        final Rows best = new Rows(WINDOWS);
        int bestCost = 0;
        /** HARM of a WINDOW by a SIDE in the storm's first MINUTES together, made when first asked for. */
        private final int[] sums = new int[SIDES * WINDOWS * TIMES];
        private final boolean[] isSummed = new boolean[SIDES];

        Forecast(Scene itsScene) {
            scene = itsScene;
        }

        /** Other WINDOWS or another HOUSE: the sums are no longer theirs. */
        void forget() {
            for (int i = 0; i < SIDES; i++) isSummed[i] = false;
        }

        void beginFromNow() {
            comes = scene.comes;
            turnTo(scene.side);
            nobodyShuts();
        }

        void turnTo(int toSide) {
            if (toSide < 0 || toSide >= SIDES) return;
            side = toSide;
            if (isSummed[side]) return;
            for (int w = 0; w < scene.windows; w++) sumUp(w);
            isSummed[side] = true;
        }

        private void sumUp(int window) {
            Pane pane = scene.panes[window];
            int sum = 0;
            for (int there = 0; there < TIMES; there++) {
                sums[sumPlace(window, there)] = sum;
                if (there >= scene.holding.last) continue;
                sum += pane.harmBy(scene.holding.rainOn(pane, window, side, there), side);
            }
        }

        private int sumPlace(int window, int there) {
            return (side * WINDOWS + window) * TIMES + Math.max(0, Math.min(there, TIMES - 1));
        }

        void nobodyShuts() {
            for (int w = 0; w < scene.windows; w++) {
                shutAt[w] = scene.panes[w].isShut ? NOW : NEVER;
            }
        }

        private int stormEnd() {
            return comes + scene.holding.last;
        }

        /** HARM of a WINDOW in the MINUTES from begin (now or later) to ahead of end, together. */
        int harmOf(int window, int begin, int end) {
            int first = Math.max(begin, comes);
            int till = Math.min(Math.min(end, stormEnd()), shutAt[window]);
            if (till <= first) return 0;
            Pane pane = scene.panes[window];
            int harm = sums[sumPlace(window, till - comes)] - sums[sumPlace(window, first - comes)];
            if (pane.kind == Kind.TOLD) harm += pane.rowSum(first, till);
            if (pane.kind == Kind.DOOR) harm += pane.v * Math.max(0, Math.min(till, otherDoorsEnd(window)) - first);
            return harm;
        }

        /** The MINUTE from which on no other DOOR is OPEN. */
        private int otherDoorsEnd(int window) {
            int end = NOW;
            for (int w = 0; w < scene.windows; w++) {
                if (w != window && scene.panes[w].kind == Kind.DOOR) end = Math.max(end, shutAt[w]);
            }
            return end;
        }

        int harmOfAll(int begin, int end) {
            int harm = 0;
            for (int w = 0; w < scene.windows; w++) harm += harmOf(w, begin, end);
            return harm;
        }

        int cost() {
            return harmOfAll(scene.minute, stormEnd());
        }

        /** Somebody who is where SHE is SHUTS these of a row, from a MINUTE on: the END. */
        private int goAlong(Rows rows, int first, int end, int start) {
            int minute = start;
            int floor = scene.floor;
            int room = scene.room;
            for (int i = first; i < end && i < rows.count; i++) {
                Pane pane = scene.panes[rows.window[i]];
                if (pane.isShut) continue;
                minute += pane.minutesFrom(floor, room, scene.holding.stair);
                shutAt[rows.window[i]] = minute;
                floor = pane.floor;
                room = pane.room;
            }
            return minute;
        }

        int goRound(int wait) {
            return goAlong(scene.round, 0, scene.round.count, scene.minute + wait);
        }

        int goAsTwo() {
            int all = scene.round.count;
            int hers = all - all / 2;
            int herEnd = goAlong(scene.round, 0, hers, scene.minute);
            return Math.max(herEnd, goAlong(scene.round, hers, all, scene.minute));
        }

        int costOfRound(int wait) {
            nobodyShuts();
            goRound(wait);
            return cost();
        }

        int costOfOne(int window) {
            tried.clear();
            tried.append(window, 0);
            return costOfTried();
        }

        /** COST of THE ROUND, were its i-th left out. */
        int costWithout(int i) {
            tried.clear();
            for (int n = 0; n < scene.round.count; n++) {
                if (n != i) tried.append(scene.round.window[n], 0);
            }
            return costOfTried();
        }

        private int costOfTried() {
            nobodyShuts();
            goAlong(tried, 0, tried.count, scene.minute);
            return cost();
        }

        void seekBest() {
            tried.clear();
            for (int w = 0; w < scene.windows; w++) {
                if (!scene.panes[w].isShut) tried.append(w, 0);
            }
            for (int n = 0; n < MOST_ROUNDS; n++) {
                int cost = costOfTried();
                if (n == 0 || cost < bestCost) {
                    bestCost = cost;
                    best.becomeAs(tried);
                }
                if (!tried.permute()) return;
            }
        }

        int shutInTime() {
            int inTime = 0;
            for (int i = 0; i < scene.round.count; i++) {
                if (shutAt[scene.round.window[i]] <= comes) inTime++;
            }
            return inTime;
        }

        boolean isAsSeen() {
            for (int i = 0; i < scene.seen.count; i++) {
                int harm = harmOf(scene.seen.window[i], scene.minute, stormEnd());
                if (harm != scene.seen.number[i]) return false;
            }
            return true;
        }
    }

    /** ACTS: which BODIES run, and THE TRACE. */
    private static final class Acts {
        static final int ACTS = 3, MOST_KEPT = 20;
        private static final int OPENS = 0, SHUTS = 1, TELLS = 2, DEEPEST = 40;
        /** By KIND what runs as it opens, shuts, tells; 0: it has none of its own. */
        private static final int[] BODIES = {
            10, 11, 12,
            0, 20, 0,
            30, 0, 0,
            0, 0, 40,
            50, 51, 0,
            0, 0, 60,
            71, 70, 0,
        };
        final int[] trace = new int[MOST_KEPT];
        int ran = 0;
        private int kind = 0, v = 0, number = 0;

        int perform(Pane pane, int itsNumber, int act, int x) {
            ran = 0;
            kind = pane.kind;
            v = pane.v;
            number = itsNumber;
            return run(this, kind, act, x, 0);
        }

        private void note(int body) {
            if (ran < MOST_KEPT) trace[ran] = body;
            ran++;
        }

        /** The body of a KIND, or of the next one above that has one. */
        private static int bodyFrom(int kind, int act) {
            int k = kind;
            for (int step = 0; step < BODIES.length && k >= 0; step++) {
                int place = k * ACTS + act;
                if (place >= 0 && place < BODIES.length && BODIES[place] != 0) return BODIES[place];
                k = Kind.above(k);
            }
            return 0;
        }

        /** The depth is told along: no KIND goes deeper than some ten, and none may. */
        private static int run(Acts its, int from, int act, int x, int depth) {
            if (depth > DEEPEST) return 0;
            int body = bodyFrom(from, act);
            int d = depth + 1;
            its.note(body);
            switch (body) {
                case 10: return x + its.number;
                case 11: return run(its, its.kind, OPENS, x, d) - its.v;
                case 12: return run(its, its.kind, SHUTS, x, d) * 2;
                case 20: return run(its, Kind.WINDOW, SHUTS, x, d) ^ 6;
                case 30: return run(its, Kind.WINDOW, OPENS, x * 3, d);
                case 40: return run(its, Kind.WINDOW, TELLS, x, d) + run(its, its.kind, SHUTS, 1, d);
                case 50: return -run(its, Kind.STICKING, OPENS, x, d);
                case 51: return run(its, Kind.STICKING, SHUTS, x + 1, d);
                case 60: return run(its, Kind.SHELTERED, TELLS, x - its.number, d);
                case 70: return run(its, Kind.GARRET, SHUTS, x, d) + run(its, Kind.GARRET, OPENS, 2, d);
                case 71: return run(its, Kind.GARRET, OPENS, x, d) ^ its.v;
                default: return 0;
            }
        }
    }

    /** A TAPE: nothing, or a row of a sort. Booleans are kept as 0 and 1. */
    private static final class Tape {
        static final int NO_SORT = -1, BOOLEANS = 4, MOST_ITEMS = 60;
        int sort = NO_SORT;
        int length = 0;
        final long[] items = new long[MOST_ITEMS];

        boolean isNothing() {
            return sort == NO_SORT;
        }

        void become(int itsSort, int n) {
            sort = itsSort;
            length = Math.max(0, Math.min(n, MOST_ITEMS));
            for (int i = 0; i < length; i++) items[i] = 0;
        }

        boolean hasPlace(int i) {
            return i >= 0 && i < length;
        }

        boolean hasSpan(int i, int n) {
            return n >= 0 && i >= 0 && i <= length - n;
        }

        long asItem(long v) {
            switch (sort) {
                case 0: return (byte) v;
                case 1: return (short) v;
                case 2: return (int) v;
                case BOOLEANS: return v != 0 ? 1 : 0;
                default: return v;
            }
        }
    }
}
