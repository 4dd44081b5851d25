/** What the document says of THE TEXT and its HOUSE, edge by edge: each sentence has a test of its own. */
public final class TextEdgesTest {
    private static void fault(String text, int place) {
        Check.due("fault of " + text, Check.house(new NineWindows(), text), -10 - place);
    }

    private static void isHouse(String text) {
        Check.due("a house: " + text, Check.house(new NineWindows(), text), 0);
    }

    private static String many(String part, int n) {
        StringBuilder s = new StringBuilder();
        for (int i = 0; i < n; i++) s.append(part);
        return s.toString();
    }

    /** "THE TEXT (bytes, 100 at most)". */
    private static void aHundredBytes() {
        String ninetyNine = "wet 01 w=00" + many("|w=1", 22);
        isHouse(ninetyNine);
        isHouse(ninetyNine + "2");
        fault(ninetyNine + "|", 100);
        fault(ninetyNine + "x", 99);
        NineWindows x = new NineWindows();
        for (int i = 0; i < 99; i++) x.feed(ninetyNine.charAt(i));
        Check.due("the hundredth", x.feed('2'), 100);
        Check.due("no other", x.feed('|'), -4);
        Check.due("a hundred", x.count(5), 100);
        Check.due("the other is not of it", x.house(), 0);
        Check.due("empty then", x.count(5), 0);
        Check.due("the first of a new one", x.feed('l'), 1);
    }

    /** "CLAUSES, 1 to 10, with ; between". */
    private static void oneToTenClauses() {
        fault("", 0);
        isHouse("last 1");
        isHouse(many("last 1;", 9) + "last 1");
        fault(many("last 1;", 10), 69);
        fault(many("last 1;", 10) + "last 1", 69);
        fault(many("last 1;", 9), 63);
        fault("last 1;;last 1", 7);
        fault(";", 0);
        fault("last 1,last 1", 6);
        isHouse(many("dry 1 w=1;", 9) + "wet 1 w=1");
        fault(many("dry 1 w=1;", 9) + "wet 1 w=1;", 99);
    }

    /** All ten count, and the tenth as the first; "the last one's n". */
    private static void allTenCount() {
        NineWindows x = new NineWindows();
        x.window(0, 0, 0, 0, 1);
        x.storm(0, 0);
        Check.house(x, many("wet 1 w=0;", 9) + "wet 9 w=0");
        Check.due("all ten", x.of(0, 7), 3 + 9 + 9);
        Check.house(x, many("stair 8;", 9) + "stair 0");
        Check.due("the tenth stair", x.told(4), 0);
        Check.house(x, many("last 8;", 9) + "last 0");
        Check.due("the tenth last", x.told(5), 0);
        Check.due("never there", x.on(99), 0);
    }

    /** "one blank ahead of each part behind the word". */
    private static void oneBlank() {
        String[] houses = {"wet 1 w=1", "dry 1 w=1", "stair 1", "last 1"};
        int[] words = {3, 3, 5, 4};
        for (int i = 0; i < houses.length; i++) {
            String h = houses[i];
            int word = words[i];
            isHouse(h);
            fault(" " + h, 0);
            fault(h.substring(0, word) + h.substring(word + 1), word);
            fault(h.substring(0, word) + " " + h.substring(word), word + 1);
            fault(h + " ", h.length());
            fault(h + " ;last 1", h.length());
            fault(h + "; last 1", h.length() + 1);
        }
        fault("wet 1w=1", 5);
        fault("wet 1  w=1", 6);
        fault("dry 12w=1", 6);
        fault("dry 12  w=1", 7);
        fault("wet 1 w =1", 7);
        fault("wet 1 w= 1", 8);
        fault("wet 1 w=1 |w=1", 9);
        fault("wet 1 w=1| w=1", 10);
        fault("wet 1 ! w=1", 7);
        fault("wet 1 ( w=1)", 7);
        fault("wet 1\tw=1", 5);
    }

    /** "n 1 or 2 digits"; "a number (1 or 2 digits)". */
    private static void oneOrTwoDigits() {
        for (String n : new String[] {"0", "9", "00", "09", "10", "99"}) {
            isHouse("wet " + n + " w=1");
            isHouse("dry " + n + " w=1");
            isHouse("stair " + n);
            isHouse("last " + n);
            for (char letter : "wkfrst".toCharArray()) {
                for (char sign : "<=>".toCharArray()) isHouse("wet 1 " + letter + sign + n);
            }
        }
        fault("wet 100 w=1", 6);
        fault("dry 000 w=1", 6);
        fault("stair 100", 8);
        fault("last 100", 7);
        fault("wet 1 w=100", 10);
        fault("wet 1 w=000", 10);
        fault("wet  w=1", 4);
        fault("stair ", 6);
        fault("last +1", 5);
        fault("last -1", 5);
        fault("last :", 5);
        fault("last /", 5);
        fault("last 1:", 6);
        fault("last 1/", 6);
        fault("wet 1 w=", 8);
        fault("wet 1 w=-1", 8);
        fault("wet 1 w=x", 8);
    }

    /** "a letter, < or = or >, a number": w, k, f, r, s, t and no other. */
    private static void tests() {
        for (int sign = 0; sign < 128; sign++) {
            NineWindows x = new NineWindows();
            for (char c : "wet 1 ".toCharArray()) x.feed(c);
            x.feed(sign);
            for (char c : "=1".toCharArray()) x.feed(c);
            int want = "wkfrst".indexOf(sign) >= 0 ? 0 : sign == '(' || sign == '!' ? -10 - 7 : -10 - 6;
            Check.due("a test by the sign " + sign, x.house(), want);
        }
        for (int sign = 0; sign < 128; sign++) {
            NineWindows x = new NineWindows();
            for (char c : "wet 1 w".toCharArray()) x.feed(c);
            x.feed(sign);
            x.feed('1');
            int want = "<=>".indexOf(sign) >= 0 ? 0 : -10 - 7;
            Check.due("a test with the sign " + sign, x.house(), want);
        }
        fault("wet 1 =1", 6);
        fault("wet 1 w<=1", 8);
        fault("wet 1 w==1", 8);
        fault("wet 1 wk=1", 7);
        fault("wet 1 1=w", 6);
        fault("wet 1 ", 6);
        fault("wet 1 ()", 7);
        fault("wet 1 w=1)", 9);
        fault("wet 1 (w=1))", 11);
    }

    /** Which byte may be the first: those of the four words. */
    private static void words() {
        for (int sign = 0; sign < 128; sign++) {
            NineWindows x = new NineWindows();
            x.feed(sign);
            Check.due("a word by " + sign, x.house(), "wdsl".indexOf(sign) >= 0 ? -10 - 1 : -10);
        }
        String[] words = {"wet", "dry", "stair", "last"};
        for (String word : words) {
            for (int i = 0; i <= word.length(); i++) {
                fault(word.substring(0, i), i);
                fault(word.substring(0, i) + "#", i);
                fault(word.substring(0, i) + word.substring(i).toUpperCase() + "#", i);
            }
        }
        fault("dry 1", 5);
        fault("stair 1 w=1", 7);
        fault("last 1 w=1", 6);
    }

    /** "A ( or ! within 4 others is none." In each of the sixteen ways to be within 4, and in those to be within 3. */
    private static void withinFour() {
        for (int way = 0; way < 16; way++) {
            StringBuilder opens = new StringBuilder();
            StringBuilder ends = new StringBuilder();
            for (int i = 0; i < 4; i++) {
                boolean isRound = (way >> i & 1) == 1;
                opens.append(isRound ? '(' : '!');
                if (isRound) ends.append(')');
            }
            isHouse("wet 1 " + opens + "w=1" + ends);
            isHouse("wet 1 " + opens + "w=1" + ends + "&" + opens + "w=1" + ends + "|" + opens + "w=1" + ends);
            fault("wet 1 " + opens + "(w=1)" + ends, 10);
            fault("wet 1 " + opens + "!w=1" + ends, 10);
            fault("wet 1 w=1|" + opens + "!w=1" + ends, 14);
            if (ends.length() > 0) {
                fault("wet 1 " + opens + "w=1" + ends + ")", 13 + ends.length());
                fault("wet 1 " + opens + "w=1" + ends.substring(1), 13 + ends.length() - 1);
            }
        }
        isHouse("wet 1 ((w=1)&((w=1)|!!w=1))");
        fault("wet 1 ((w=1)&((w=1)|!!!w=1))", 22);
        fault("wet 1 ((w=1)&((w=1)|!(!w=1)))", 22);
        fault("wet 1 ((w=1)&(((((w=1", 16);
    }

    /** "the end of THE TEXT, if it ends too early": each begin of a HOUSE is one, or its fault is its end. */
    private static void endsTooEarly() {
        begins("wet 1 !(w=1&k<2)|r>3", 16, 20);
        begins("dry 12 ((f>0))", 14);
        begins("last 12;stair 3", 6, 7, 15);
        begins("stair 3;wet 1 w=12", 7, 17, 18);
    }

    private static void begins(String text, int... houses) {
        for (int length = 0; length <= text.length(); length++) {
            boolean isOne = false;
            for (int h : houses) isOne |= h == length;
            if (isOne) isHouse(text.substring(0, length));
            else fault(text.substring(0, length), length);
        }
    }

    /** The fault is the first byte with which none begins so, be there more behind it. */
    private static void theFirstFault() {
        fault("wet 1 w=1&#|#", 10);
        fault("wet 1 w=1|&", 10);
        fault("wet 1 w=1&|", 10);
        fault("last 1;lost 1;#", 8);
        fault("wat 1 w=1", 1);
        fault("last 1;wet 1", 12);
        fault("\u0000", 0);
        fault("last 1\u0000", 6);
        fault("wet 1 w=1\u0000", 9);
        fault("wet 1 (w=1)\u0000;", 11);
        fault("last 1;\u0000", 7);
        fault("last \u0000", 5);
        fault("last 1\u007f", 6);
        fault("last 1\n", 6);
    }

    /** "(the one that held holds)", "THE TEXT, which is empty then"; nothing that stood ahead of a fault counts. */
    private static void afterAFault() {
        NineWindows x = new NineWindows();
        x.window(0, 0, 0, 0, 1);
        x.storm(0, 0);
        Check.due("a fault without a house", Check.house(x, "stair 9;last 9;wet 9 w=0;x"), -10 - 25);
        Check.due("no house", x.count(1), 0);
        Check.due("stair without", x.told(4), 2);
        Check.due("last without", x.told(5), 15);
        Check.due("no rain of it", x.of(0, 7), 3);
        Check.due("empty", x.count(5), 0);
        Check.due("a house behind it", Check.house(x, "wet 1 w=0"), 0);
        Check.due("stair is not the fault's", x.told(4), 2);
        Check.due("last is not the fault's", x.told(5), 15);
        Check.due("rain is not the fault's", x.of(0, 7), 4);
        Check.due("a fault with a house", Check.house(x, "stair 9;last 9;wet 9 w=0;"), -10 - 25);
        Check.due("that one holds", x.of(0, 7) * 100 + x.told(5), 415);
        Check.due("of a fault's clauses none", Check.house(x, "dry 1 w=0"), 1);
        Check.due("only its own", x.of(0, 7), 2);
    }

    /** "HOUSES (6 at most)"; a fault takes no number. */
    private static void sixHouses() {
        NineWindows x = new NineWindows();
        for (int i = 0; i < 6; i++) {
            Check.due("a fault", Check.house(x, "stair"), -10 - 5);
            Check.due("count", x.count(1), i);
            Check.due("number", Check.house(x, "last " + i), i);
            Check.due("it holds", x.told(5), i);
        }
        Check.due("full", Check.house(x, "last 9"), -4);
        Check.due("the text stays", x.count(5), 6);
        Check.due("the sixth holds", x.told(5), 5);
        Check.due("full again", x.house(), -4);
        Check.due("full, though there is a fault", Check.house(x, ";#"), -4);
        Check.due("full, and so it stays", x.count(5), 8);
        x.image();
        x.undo();
        Check.due("full for good", x.house(), -4);
    }

    /** "k its KIND" and the other letters: by each of them, at the least and at the most, and just beside. */
    private static void whatIsLookedAt() {
        for (int w = 0; w < 7; w++) {
            int[] facts = {w, w, w % 4, w % 5, w % 4, w};
            int[] kindFactor = {1, 1, 0, 2, 1, 0, 2};
            for (int letter = 0; letter < 6; letter++) {
                for (int n = Math.max(0, facts[letter] - 1); n <= facts[letter] + 1; n++) {
                    for (char sign : "<=>".toCharArray()) {
                        NineWindows x = new NineWindows();
                        for (int i = 0; i < 7; i++) x.window(i, 0, i % 4, i % 5, 1);
                        String text = "wet 4 " + "wkfrst".charAt(letter) + sign + n;
                        Check.house(x, text);
                        x.storm(1, w % 4);
                        x.pass(1 + w);
                        boolean holds = sign == '<' ? facts[letter] < n : sign == '=' ? facts[letter] == n : facts[letter] > n;
                        int rain = holds ? 7 : 3;
                        int want = kindFactor[w] > 0 ? kindFactor[w] * rain : w == 2 || w % 4 == 0 ? rain / 2 : 0;
                        Check.due(text + " of window " + w, x.of(w, 7), want);
                    }
                }
            }
        }
    }

    /** Numbers of 99, and tests of two digits, against each letter; t is 98 at most, and not 99. */
    private static void theGreatestNumbers() {
        NineWindows x = new NineWindows();
        x.window(0, 0, 3, 4, 1);
        for (char c : "last 99;".toCharArray()) x.feed(c);
        Check.house(x, "wet 1 t<99;wet 2 t>97;wet 4 t=98;wet 8 t>98;wet 16 t=99");
        x.storm(0, 3);
        x.pass(97);
        Check.due("t is 97", x.of(0, 7), 3 + 1);
        x.pass(1);
        Check.due("t is 98", x.of(0, 7), 3 + 1 + 2 + 4);
        x.pass(1);
        Check.due("over", x.of(0, 7), 0);
        for (char letter : "wkfrst".toCharArray()) {
            NineWindows y = new NineWindows();
            y.window(0, 0, 3, 4, 1);
            y.storm(0, 3);
            Check.house(y, "wet 1 " + letter + "<99;wet 2 " + letter + ">99;wet 4 " + letter + "=99;wet 8 " + letter + "<0");
            Check.due("less than 99, not less than 0: " + letter, y.of(0, 7), 4);
        }
    }

    /** "T or T|E", "F or F&T", "!F": by each truth of two and of three tests, & ahead of |, ! ahead of &. */
    private static void joined() {
        for (int bits = 0; bits < 8; bits++) {
            boolean a = (bits & 1) != 0;
            boolean b = (bits & 2) != 0;
            boolean c = (bits & 4) != 0;
            String[] t = new String[3];
            for (int i = 0; i < 3; i++) t[i] = (bits >> i & 1) != 0 ? "w=0" : "w=1";
            joined(t[0] + "&" + t[1] + "|" + t[2], a && b || c);
            joined(t[0] + "|" + t[1] + "&" + t[2], a || b && c);
            joined(t[0] + "&(" + t[1] + "|" + t[2] + ")", a && (b || c));
            joined("(" + t[0] + "|" + t[1] + ")&" + t[2], (a || b) && c);
            joined("!" + t[0] + "&" + t[1] + "&!" + t[2], !a && b && !c);
            joined("!" + t[0] + "|" + t[1] + "|!" + t[2], !a || b || !c);
            joined("!(" + t[0] + "&" + t[1] + ")|" + t[2], !(a && b) || c);
            joined("!!" + t[0] + "&!!!" + t[1] + "&!!!!" + t[2], a && !b && c);
            joined("!(!(" + t[0] + "|" + t[1] + ")&" + t[2] + ")", !(!(a || b) && c));
            joined("!!(!" + t[0] + ")&" + t[1], !a && b);
            joined("!(!!" + t[0] + ")&" + t[1] + "|" + t[2], !a && b || c);
        }
    }

    private static void joined(String e, boolean holds) {
        NineWindows x = new NineWindows();
        x.window(0, 0, 0, 0, 1);
        x.storm(0, 0);
        Check.house(x, "wet 5 " + e);
        Check.due("joined: " + e, x.of(0, 7), holds ? 8 : 3);
    }

    public static void main(String[] args) {
        aHundredBytes();
        oneToTenClauses();
        allTenCount();
        oneBlank();
        oneOrTwoDigits();
        tests();
        words();
        withinFour();
        endsTooEarly();
        theFirstFault();
        afterAFault();
        sixHouses();
        whatIsLookedAt();
        theGreatestNumbers();
        joined();
        Check.end("TextEdgesTest");
    }
}
