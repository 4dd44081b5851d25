/**
 * The document's "Terms" 1, sentence by sentence: where one names an edge (the least, the most, none, all of
 * them, a number that comes round again), a test of its own stands here under that sentence.
 */
public final class TermsEdgesTest {
    private static final int NO_HOUSE_RAIN = 3;

    private static NineWindows of(String house, int comes, int side) {
        NineWindows x = new NineWindows();
        Check.due("a house: " + house, Check.house(x, house), 0);
        x.storm(comes, side);
        return x;
    }

    /** "WINDOWS 0 .. 6, as they come, are of KINDS"; "v (0 .. 9)", "FLOOR (0 .. 3)", "ROOM (0 .. 4)", "TAKES (1 .. 9)". */
    private static void theLeastAndTheMostOfAWindow() {
        NineWindows x = new NineWindows();
        int[][] edges = {{0, 0, 0, 0, 1}, {6, 9, 3, 4, 9}};
        for (int i = 0; i < edges.length; i++) {
            int[] e = edges[i];
            Check.due("at an edge", x.window(e[0], e[1], e[2], e[3], e[4]), i);
            for (int what = 0; what < 5; what++) Check.due("as told " + what, x.of(i, what), e[what]);
        }
        for (int part = 0; part < 5; part++) {
            for (int i = 0; i < edges.length; i++) {
                int[] e = edges[i].clone();
                e[part] += i == 0 ? -1 : 1;
                Check.due("beyond an edge: " + part, x.window(e[0], e[1], e[2], e[3], e[4]), part == 0 ? -1 : -2);
            }
        }
        for (int i = 2; i < 7; i++) Check.due("as they come", x.window(0, 0, 0, 0, 1), i);
        Check.due("the seventh was the last", x.window(0, 0, 0, 0, 1), -4);
        Check.due("seven", x.count(0), 7);
    }

    /** "each OPEN (at first)"; "its ROW (.. 0 at first)": also a WINDOW that comes where one was before undo(). */
    private static void openAtFirst() {
        NineWindows x = new NineWindows();
        x.storm(0, 0);
        x.image();
        x.window(6, 0, 0, 0, 1);
        Check.due("open", x.of(0, 5), 0);
        Check.due("no row", x.on(4), 4 * 6);
        for (int part = 0; part < 4; part++) Check.due("was 0", x.row(0, part, 9), 0);
        Check.due("a row", x.on(4), 4 * 15);
        x.put(0, true);
        x.undo();
        Check.due("a number again", x.window(6, 0, 0, 0, 1), 0);
        Check.due("open again", x.of(0, 5), 0);
        Check.due("no row again", x.on(4), 4 * 6);
        for (int part = 0; part < 4; part++) Check.due("is 0 again", x.row(0, part, 0), 0);
    }

    /** "COMES at a MINUTE (0 .. 99; 20 at first), from a SIDE (0 .. 3; 0 at first)"; "(0, 0 at first)". */
    private static void theStormsEdges() {
        NineWindows x = new NineWindows();
        Check.due("20 at first", x.told(2), 20);
        Check.due("0 at first", x.told(3), 0);
        Check.due("she is on floor 0 at first", x.told(6), 0);
        Check.due("in room 0 at first", x.told(7), 0);
        Check.due("0 and 0", x.storm(0, 0), 20);
        Check.due("99 and 3", x.storm(99, 3), 0);
        Check.due("comes", x.told(2), 99);
        Check.due("side", x.told(3), 3);
        x.window(0, 0, 0, 0, 1);
        x.pass(98);
        Check.due("not yet there at 98", x.of(0, 7), 0);
        x.pass(1);
        Check.due("there at 99", x.of(0, 7), NO_HOUSE_RAIN);
    }

    /** "less than COMES and LAST, together": by LAST 15 without a HOUSE, 0, 1, 99. */
    private static void thereOrNot() {
        int[] lasts = {-1, 0, 1, 99};
        for (int last : lasts) {
            for (int comes : new int[] {0, 7, 99}) {
                NineWindows x = new NineWindows();
                if (last >= 0) Check.house(x, "last " + last);
                int minutes = last < 0 ? 15 : last;
                x.storm(comes, 0);
                x.window(0, 0, 0, 0, 1);
                if (comes > 0) {
                    x.pass(comes - 1);
                    Check.due("a minute ahead of it", x.of(0, 7), 0);
                    Check.due("that minute is dry", x.pass(1), 0);
                }
                Check.due("its first minute, last " + last, x.of(0, 7), minutes == 0 ? 0 : 3);
                if (minutes == 0) continue;
                Check.due("but its last one", x.pass(minutes - 1), 3 * (minutes - 1));
                Check.due("its last one, last " + last, x.of(0, 7), 3);
                Check.due("that goes", x.pass(1), 3);
                Check.due("it is over, last " + last, x.of(0, 7), 0);
                Check.due("no more comes", x.pass(99), 0);
            }
        }
    }

    /** "RAIN: 3, and the n of all wet .., less those of all dry, together (0 at least)"; "the half of RAIN (cut)". */
    private static void rainAndItsHalf() {
        String house = "dry 3 r=0;dry 2 r=1;dry 1 r=2;wet 1 r=4;dry 99 f=1;wet 98 f=1";
        for (int room = 0; room < 5; room++) {
            NineWindows x = of(house, 0, 2);
            int[] due = {room, room, room / 2, 2 * room, room, room / 2, 2 * room};
            for (int kind = 0; kind < 7; kind++) x.window(kind, 2, 0, room, 1);
            for (int kind = 0; kind < 7; kind++) {
                Check.due("rain " + room + " on kind " + kind, x.of(kind, 7), due[kind]);
            }
        }
        NineWindows x = of(house, 0, 0);
        int[] rains = {0, 0, 1, 2, 3};
        for (int room = 0; room < 5; room++) x.window(0, 0, 1, room, 1);
        for (int room = 0; room < 5; room++) Check.due("all together, 0 at least", x.of(room, 7), rains[room]);
        Check.due("what is below 0 takes nothing from others", x.on(1), 6);
    }

    /** "DOOR: RAIN, and v more, if another DOOR is OPEN". */
    private static void doors() {
        NineWindows x = new NineWindows();
        x.storm(0, 0);
        x.window(4, 9, 0, 0, 1);
        x.window(1, 9, 0, 0, 1);
        Check.due("a door is not another one", x.of(0, 7), 3);
        x.window(4, 0, 0, 0, 1);
        Check.due("v 9", x.of(0, 7), 12);
        Check.due("v 0", x.of(2, 7), 3);
        Check.due("a sticking one does not slam", x.of(1, 7), 3);
        x.window(4, 5, 0, 0, 1);
        Check.due("v more only once", x.of(0, 7), 12);
        x.put(2, true);
        Check.due("one of two others is open", x.of(0, 7), 12);
        Check.due("a shut one is dry", x.of(2, 7), 0);
        x.put(3, true);
        Check.due("none of the others is", x.of(0, 7), 3);
        x.put(0, true);
        Check.due("shut itself", x.of(0, 7), 0);
    }

    /** "LEE: as SHELTERED, if SIDE is v modulo 4, else 0". */
    private static void lee() {
        for (int v = 0; v <= 9; v++) {
            NineWindows x = of("wet 4 w=0", 0, 0);
            x.window(5, v, 0, 0, 1);
            for (int side = 0; side < 4; side++) {
                x.storm(0, side);
                Check.due("lee of " + v + " from " + side, x.of(0, 7), side == v % 4 ? 3 : 0);
            }
        }
    }

    /** "its ROW (four numbers 0 .. 9; 0 at first) at MINUTE modulo 4 more". */
    private static void rows() {
        for (int comes : new int[] {0, 1, 98, 99}) {
            NineWindows x = of("last 11", comes, 0);
            int[] row = {9, 0, 4, 1};
            x.window(6, 0, 0, 0, 1);
            for (int part = 0; part < 4; part++) Check.due("a row", x.row(0, part, row[part]), 0);
            x.pass(comes);
            for (int minute = comes; minute < comes + 11; minute++) {
                Check.due("a row at " + minute, x.of(0, 7), 6 + row[minute % 4]);
                Check.due("a row goes by at " + minute, x.pass(1), 6 + row[minute % 4]);
            }
            Check.due("over", x.of(0, 7), 0);
        }
    }

    /** "WAY ..: STAIR times how far the FLOORS are apart, and how far the ROOMS are apart." */
    private static void ways() {
        int[] stairs = {0, 1, 99};
        for (int stair : stairs) {
            NineWindows x = of("stair " + stair, 0, 0);
            x.window(0, 0, 3, 4, 1);
            x.window(0, 0, 0, 0, 1);
            Check.due("up, by " + stair, x.of(0, 6), 3 * stair + 4);
            Check.due("here", x.of(1, 6), 0);
            x.stand(3, 4);
            Check.due("down, by " + stair, x.of(1, 6), 3 * stair + 4);
            Check.due("here", x.of(0, 6), 0);
            x.stand(3, 0);
            Check.due("along", x.of(0, 6), 4);
            Check.due("only down", x.of(1, 6), 3 * stair);
            x.put(0, true);
            Check.due("to a shut one too", x.of(0, 6), 4);
        }
    }

    /** "STICKING, DOOR: WAY and twice TAKES"; TAKES of 1 and of 9. */
    private static void takes() {
        int[] times = {1, 2, 1, 1, 2, 1, 1};
        for (int kind = 0; kind < 7; kind++) {
            for (int takes = 1; takes <= 9; takes += 8) {
                NineWindows x = new NineWindows();
                x.window(kind, 0, 0, 0, takes);
                x.add(0);
                Check.due("end, kind " + kind, x.round(1), times[kind] * takes);
                Check.due("end of both", x.two(1), times[kind] * takes);
                Check.due("shut, kind " + kind, x.shut(0), times[kind] * takes);
                Check.due("minute", x.told(0), times[kind] * takes);
            }
        }
    }

    /** "(999999 at most)": WET is told so, and by pass(), shut() and on() alike. */
    private static void theMostWet() {
        NineWindows x = of("wet 99 w<9;wet 99 w<9;wet 99 w<9;wet 99 w<9;wet 99 w<9;wet 99 w<9;wet 99 w<9;wet 99 w<9;last 99", 0, 0);
        for (int i = 0; i < 7; i++) x.window(3, 0, 3, 4, 9);
        int minute = 7 * 2 * (3 + 8 * 99);
        x.pass(80);
        Check.due("not yet", x.told(1), 80 * minute);
        Check.due("on to the most", x.on(19), 999999 - 80 * minute);
        Check.due("19 minutes", x.shut(0), 3 * 2 + 4 + 9);
        Check.due("the most", x.told(1), 999999);
        Check.due("no more by one that is shut", x.shut(1), 9);
        Check.due("the most still", x.told(1), 999999);
    }

    public static void main(String[] args) {
        theLeastAndTheMostOfAWindow();
        openAtFirst();
        theStormsEdges();
        thereOrNot();
        rainAndItsHalf();
        doors();
        lee();
        rows();
        ways();
        takes();
        theMostWet();
        Check.end("TermsEdgesTest");
    }
}
