/** Promise 9 and the text of ==== 1: houses, their faults, and what they say of rain. */
public final class HouseTest {
    private static void fault(String text, int place) {
        Check.due("9: " + text, Check.house(new NineWindows(), text), -10 - place);
    }

    private static void isHouse(String text) {
        Check.due("9: " + text, Check.house(new NineWindows(), text), 0);
    }

    private static void faults() {
        fault("", 0);
        fault("x", 0);
        fault("Wet 1 w=1", 0);
        fault("wat 1 w=1", 1);
        fault("we", 2);
        fault("wet", 3);
        fault("wet1", 3);
        fault("wet ", 4);
        fault("wet  1 w=1", 4);
        fault("wet x", 4);
        fault("wet 1", 5);
        fault("wet 1;", 5);
        fault("wet 123", 6);
        fault("wet 12  w=1", 7);
        fault("wet 1 ", 6);
        fault("wet 1 w", 7);
        fault("wet 1 w1", 7);
        fault("wet 1 w==", 8);
        fault("wet 1 w=", 8);
        fault("wet 1 w=123", 10);
        fault("wet 1 w=1 ", 9);
        fault("wet 1 w=1)", 9);
        fault("wet 1 (w=1", 10);
        fault("wet 1 ()", 7);
        fault("wet 1 w=1|", 10);
        fault("wet 1 w=1&&w=1", 10);
        fault("wet 1 w=1!w=1", 9);
        fault("wet 1 q=1", 6);
        fault("dry 1 (((((w=1", 10);
        fault("dry 1 !!!!!w=1", 10);
        fault("dry 1 !(!((w=1", 10);
        fault("dry 1 ((((!w=1", 10);
        fault("stair 1 w=1", 7);
        fault("stairs", 5);
        fault("stare", 3);
        fault("last 123", 7);
        fault("last -1", 5);
        fault("last 1;", 7);
        fault("last 1;;", 7);
        fault("last 1; dry", 7);
        fault(";last 1", 0);
        fault("last 1;last 2;dry 1", 19);
    }

    private static void houses() {
        isHouse("wet 1 w=1");
        isHouse("dry 99 t>99");
        isHouse("wet 00 !!!!w=01");
        isHouse("wet 1 ((((w=1))))&!!!!k<2|(((!f>3)))");
        fault("wet 1 !(!(!(r=1)))", 10);
        isHouse("wet 1 !(!(r=1))|!w=1|!w=1|!w=1|!w=1|!w=1");
        isHouse("stair 0;last 99");
    }

    private static void tenClauses() {
        String nine = "last 1;last 1;last 1;last 1;last 1;last 1;last 1;last 1;last 1;";
        isHouse(nine + "last 7");
        fault(nine + "last 7;", 69);
        fault(nine + "last 7;last 1", 69);
        fault(nine, 63);
        StringBuilder ten = new StringBuilder("wet 1 w=0");
        for (int i = 1; i < 10; i++) ten.append(";wet 1 w=0");
        NineWindows x = new NineWindows();
        x.window(0, 0, 0, 0, 1);
        x.storm(0, 0);
        Check.due("9: ten", Check.house(x, ten.toString()), 0);
        Check.due("9: all ten count", x.of(0, 7), 13);
        Check.due("9: ten and more", Check.house(x, ten + ";"), -109);
        Check.due("9: of a fault nothing is left", Check.house(x, "wet 2 w=1;dry 1 w=0"), 1);
        Check.due("9: so", x.of(0, 7), 2);
        Check.due("9: ten again", Check.house(x, ten.toString()), 2);
        Check.due("9: all ten count again", x.of(0, 7), 13);
    }

    /** Two long texts with a fault at their end, and then a long HOUSE, of which only the last test holds. */
    private static void longOnes() {
        StringBuilder many = new StringBuilder("wet 1 w=1");
        for (int i = 0; i < 21; i++) many.append("|w=1");
        NineWindows x = new NineWindows();
        x.window(0, 0, 0, 0, 1);
        x.storm(0, 0);
        for (int i = 0; i < 2; i++) Check.due("9: a long one", Check.house(x, many + "|w=0|"), -10 - 98);
        Check.due("9: its last test counts", Check.house(x, many + "|w=0"), 0);
        Check.due("9: so", x.of(0, 7), 4);
        Check.due("9: without that test", Check.house(x, many.toString()), 1);
        Check.due("9: so", x.of(0, 7), 3);
    }

    private static void sixHouses() {
        NineWindows x = new NineWindows();
        for (int i = 0; i < 6; i++) {
            Check.due("9: number", Check.house(x, "stair " + (i + 3)), i);
            Check.due("9: it holds", x.told(4), i + 3);
            if (i < 5) {
                Check.due("9: a fault", Check.house(x, "stair 99!"), -18);
                Check.due("9: the one before holds", x.told(4), i + 3);
                Check.due("9: the text is empty", x.count(5), 0);
            }
        }
        Check.due("9: six", x.count(1), 6);
        Check.due("9: full", Check.house(x, "last 9"), -4);
        Check.due("9: the text stays", x.count(5), 6);
        Check.due("9: full, be there a fault", Check.house(x, "!"), -4);
        Check.due("9: the sixth holds", x.told(4), 8);
        Check.due("9: still six", x.count(1), 6);
    }

    /** HARM of a WINDOW 2 of KIND 0, on FLOOR 1, in ROOM 4, at MINUTE 7 of a storm since 3 from SIDE 2. */
    private static void rain(String text, int want) {
        NineWindows x = new NineWindows();
        x.window(1, 0, 0, 0, 1);
        x.window(1, 0, 0, 0, 1);
        x.window(0, 0, 1, 4, 1);
        x.storm(3, 2);
        x.pass(7);
        Check.house(x, text);
        Check.due("9: rain by " + text, x.of(2, 7), want);
    }

    private static void rains() {
        rain("last 9", 3);
        rain("wet 5 w=2", 8);
        rain("wet 5 w<2", 3);
        rain("wet 5 w>1", 8);
        rain("wet 5 w<3", 8);
        rain("wet 5 w>2", 3);
        rain("wet 5 k=0", 8);
        rain("wet 5 f=1", 8);
        rain("wet 5 r=4", 8);
        rain("wet 5 s=2", 8);
        rain("wet 5 t=4", 8);
        rain("wet 5 t=5", 3);
        rain("wet 5 !t=5", 8);
        rain("wet 5 !!t=5", 3);
        rain("wet 5 !t=5&w=0", 3);
        rain("wet 5 !(t=5&w=0)", 8);
        rain("wet 5 w=2|w=0&k=9", 8);
        rain("wet 5 (w=2|w=0)&k=9", 3);
        rain("wet 5 w=0&w=2|k=0", 8);
        rain("wet 5 w=9|w=8|w=2", 8);
        rain("wet 5 w=2&k=0&f=1", 8);
        rain("wet 5 w=2&k=0&f=2", 3);
        rain("wet 05 w=02;wet 40 r=4;dry 20 f>0;dry 1 f>1", 28);
        rain("dry 2 w=2", 1);
        rain("dry 3 w=2", 0);
        rain("dry 99 w=2;wet 5 w=2", 0);
        rain("dry 9 w=2;wet 9 w=2", 3);
        rain("last 4", 0);
        rain("last 5", 3);
        rain("last 4;last 5", 3);
        rain("last 5;last 0", 0);
    }

    private static void theLastOnesCount() {
        NineWindows x = new NineWindows();
        Check.house(x, "stair 9;last 8;stair 7;wet 1 w=0;last 6");
        Check.due("9: stair", x.told(4), 7);
        Check.due("9: last", x.told(5), 6);
        Check.house(x, "wet 1 w=0");
        Check.due("9: stair without", x.told(4), 2);
        Check.due("9: last without", x.told(5), 15);
    }

    /** Another house, another side, another window: no rain of before may be left. */
    private static void nothingOldIsLeft() {
        NineWindows x = new NineWindows();
        x.window(0, 0, 0, 0, 1);
        x.storm(0, 0);
        Check.due("9: without a house", x.on(1), 3);
        Check.house(x, "wet 2 s=0;wet 4 s=1;wet 8 w=1");
        Check.due("9: with one", x.on(1), 5);
        x.storm(0, 1);
        Check.due("9: from another side", x.on(1), 7);
        x.window(0, 0, 0, 0, 1);
        Check.due("9: a second window", x.on(1), 7 + 15);
        Check.house(x, "dry 1 w=1");
        Check.due("9: another house", x.on(1), 3 + 2);
    }

    public static void main(String[] args) {
        faults();
        houses();
        tenClauses();
        longOnes();
        sixHouses();
        rains();
        theLastOnesCount();
        nothingOldIsLeft();
        Check.end("HouseTest");
    }
}
