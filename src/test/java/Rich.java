/** Objects that hold something of all there is, and all that can be asked of one. */
final class Rich {
    /** Of these kinds; the sixth is SHUT. */
    private static final int[] KINDS = {6, 4, 4, 5, 3, 1};

    private Rich() {
    }

    private static void feed(NineWindows x, String text) {
        for (int i = 0; i < text.length(); i++) x.feed(text.charAt(i));
    }

    /** Six WINDOWS, one HOUSE, an image, and room for more of everything. */
    static NineWindows withRoom() {
        NineWindows x = new NineWindows();
        for (int w = 0; w < KINDS.length; w++) x.window(KINDS[w], 3 + w, w % 4, w % 5, 1 + w);
        for (int part = 0; part < 4; part++) x.row(0, part, 2 * part + 1);
        feed(x, "wet 4 f>0|s=2;stair 1;last 19");
        x.house();
        x.storm(3, 1);
        x.pass(2);
        x.stand(1, 2);
        x.put(5, true);
        x.image();
        x.shut(3);
        x.put(3, false);
        x.add(4);
        x.add(5);
        x.add(0);
        x.see(5, 0);
        x.see(3, 2);
        x.book(5, 0);
        x.book(0, 21);
        x.book(4, 3);
        feed(x, "last 1");
        for (int tape = 0; tape < 5; tape++) {
            x.tape(tape, tape, 4);
            for (int i = 0; i < 4; i++) x.item(tape, i, 7 * tape + i);
        }
        x.act(0, 2, 5);
        return x;
    }

    /** Seven WINDOWS, six HOUSES, a hundred bytes, six SEEN, eight rows in the BOOK, seven of THE ROUND. */
    static NineWindows full() {
        NineWindows x = withRoom();
        x.window(2, 9, 3, 4, 9);
        x.house();
        for (int n = 0; n < 4; n++) {
            feed(x, "dry 1 w=" + n);
            x.house();
        }
        for (int w = 0; w < 7; w++) x.add(w);
        while (x.count(3) < 6) x.see(1, 3);
        while (x.count(4) < 8) x.book(6, 40);
        feed(x, "last 9");
        for (int n = 6; n < 100; n++) x.feed('|');
        return x;
    }

    /** Seven of THE ROUND, and five OPEN, so that there is a BEST. */
    static NineWindows ofSeven() {
        NineWindows x = withRoom();
        x.window(2, 9, 3, 4, 9);
        x.put(1, true);
        for (int w = 6; w >= 0; w--) x.add(w);
        return x;
    }

    /** With no room for a MINUTE. */
    static NineWindows late() {
        NineWindows x = withRoom();
        for (int n = 0; n < 101; n++) x.pass(99);
        x.pass(9999 - x.told(0));
        return x;
    }

    /** Asks all, and at last what can be asked only by changing it; some 200 calls. */
    static long[] all(NineWindows x) {
        long[] a = new long[300];
        int n = asked(x, a, 0);
        for (int part = 0; part < 4; part++) a[n++] = x.row(0, part, 0);
        a[n++] = x.house();
        for (int i = 0; i < 9; i++) a[n++] = x.told(i);
        a[n++] = x.undo();
        for (int i = 0; i < 9; i++) a[n++] = x.told(i);
        for (int w = 0; w < 6; w++) a[n++] = x.of(w, 5);
        for (int part = 0; part < 4; part++) a[n++] = x.row(0, part, 0);
        for (int i = 0; i < 6; i++) a[n++] = x.count(i);
        a[n++] = x.round(0);
        a[n++] = x.from();
        a[n++] = x.looked();
        return a;
    }

    private static int asked(NineWindows x, long[] a, int from) {
        int n = from;
        for (int i = 0; i < 7; i++) a[n++] = x.count(i);
        for (int i = 0; i < 12; i++) a[n++] = x.trace(i);
        for (int i = 0; i < 9; i++) a[n++] = x.told(i);
        for (int w = 0; w < 7; w++) {
            for (int what = 0; what < 8; what++) a[n++] = x.of(w, what);
            a[n++] = x.worth(w);
        }
        for (int minutes = 0; minutes < 50; minutes += 7) a[n++] = x.on(minutes);
        for (int k = -1; k < 5; k++) a[n++] = x.best(k);
        for (int what = 0; what < 2; what++) {
            a[n++] = x.round(what);
            a[n++] = x.two(what);
            a[n++] = x.sides(what);
            a[n++] = x.begin(what);
            a[n++] = x.odds(300, what);
            a[n++] = x.mean(what);
        }
        a[n++] = x.round(2);
        a[n++] = x.next();
        a[n++] = x.late(400);
        a[n++] = x.leave();
        a[n++] = x.from();
        a[n++] = x.looked();
        for (int tape = 0; tape < 6; tape++) {
            a[n++] = x.judge(tape, 0);
            for (int i = 0; i < 5; i++) a[n++] = x.read(tape, i);
        }
        return n;
    }
}
