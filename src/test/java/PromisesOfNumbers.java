/** Promises 1 to 12: a new object, the base, numbers. */
final class PromisesOfNumbers extends BoundaryPart {
    private static final int[] FAR = {1000000, -1000000, LEAST, GREATEST};

    PromisesOfNumbers(Boundaries to) {
        super(to);
    }

    @Override
    void run() {
        newObject();
        base();
        put();
        deed();
        deedUnknownAndOutside();
        drift();
        undo();
        toldOfBase();
        toldOfWord();
        toldOfWorth();
        toldUndoable();
        shelfParts();
        shelfWritten();
        shelfNot();
        figure();
        compare();
        beside();
        norm();
    }

    private void newObject() {
        to.sentence("Promise 1", "THE BASE of 1, 1; SHELVES are 0.");
        RingBases x = new RingBases();
        to.isText("base and shelves", Look.state(x), "1,1 0,0 0,0 0,0 0,0");
        to.is("nothing can be undone", x.undo(), NOT);
        to.is("no image 0", x.goBack(0), NOT);
        to.is("no image 1", x.goBack(1), NOT);
        to.is("no word", x.clear(), 0);
        RingBases used = Bases.in(9, -7);
        used.put(3, 1, 2);
        used.feed('1');
        used.keep(1);
        to.isText("an object made later has nothing of an earlier one", Look.all(new RingBases()), Look.all(x));
    }

    private void base() {
        to.sentence("Promise 2", "THE BASE (SHELVES stay as m, n): TOP.");
        RingBases x = new RingBases();
        x.put(0, 999999, -999999);
        x.put(3, -999999, 999999);
        to.is("the greatest a and b", x.base(9, 9), 9);
        to.isText("shelves at the bounds stay", Look.state(x), "9,9 999999,-999999 0,0 0,0 -999999,999999");
        to.is("the greatest a, the least b", x.base(9, -7), 8);
        to.isText("shelves at the bounds stay", Look.state(x), "9,-7 999999,-999999 0,0 0,0 -999999,999999");
        to.is("the least a and b above 0", x.base(1, 1), 1);
        to.is("the least a with a b below 0", x.base(3, -1), 2);
        to.is("the base that is so already", x.base(3, -1), 2);
        to.is("it counts as a change, too", x.told(11), 7);
        RingBases z = Bases.in(2, 1);
        z.put(0, 3, 0);
        to.isText("3 is written", Look.written(z, 0), "10.11");
        z.base(2, 2);
        to.isText("3 is written anew as b alone is another", Look.written(z, 0), "10.02");
        z.undo();
        to.isText("3 is written as ahead of it", Look.written(z, 0), "10.11");
        z.base(3, 1);
        to.isText("3 is written anew as a alone is another", Look.written(z, 0), "3");

        to.sentence("Promise 2", "OUTSIDE.");
        int[][] wrong = {{0, 1}, {0, 0}, {10, 1}, {10, -1}, {-1, -1}, {1, 0}, {1, 2}, {1, -1}, {2, -1}, {2, 3}, {3, -2},
            {9, 10}, {9, 0}, {9, -8}, {LEAST, 1}, {GREATEST, 1}, {LEAST, LEAST}, {GREATEST, LEAST}, {9, LEAST}, {9, GREATEST}};
        for (int[] w : wrong) {
            RingBases y = Bases.in(4, -2);
            to.is("base(" + w[0] + ", " + w[1] + ")", y.base(w[0], w[1]), OUTSIDE);
            to.isText("the base stays", Look.state(y), "4,-2 0,0 0,0 0,0 0,0");
        }
    }

    private void put() {
        to.sentence("Promise 3", "A SHELF becomes m, n: 1 it is above 0, 0 it is 0, -1 below.");
        RingBases x = new RingBases();
        to.is("0 is 0", x.put(0, 0, 0), 0);
        to.is("1", x.put(0, 1, 0), 1);
        to.is("-1", x.put(0, -1, 0), -1);
        to.is("B", x.put(0, 0, 1), 1);
        to.is("B turned", x.put(0, 0, -1), -1);
        x.put(1, 3, 0);
        to.isText("3 is written", Look.written(x, 1), "100.01");
        x.put(1, 3, 1);
        to.isText("written anew as n alone is another", Look.written(x, 1), "1000.01");
        x.put(1, 3, 0);
        to.isText("3 is written again", Look.written(x, 1), "100.01");
        x.put(1, 4, 0);
        to.isText("written anew as m alone is another", Look.written(x, 1), "101.01");
        to.is("the greatest number", x.put(3, 999999, 999999), 1);
        isShelf("the greatest number", x, 3, 999999, 999999);
        to.is("the least number", x.put(3, -999999, -999999), -1);
        isShelf("the least number", x, 3, -999999, -999999);
        for (int[] base : Bases.all()) {
            RingBases y = Bases.in(base);
            int[] tiny = Bases.tiny(base, 999999);
            to.is("least above 0 that is found" + Bases.name(base), y.put(1, tiny[0], tiny[1]), 1);
            to.is("greatest below 0 that is found" + Bases.name(base), y.put(1, -tiny[0], -tiny[1]), -1);
        }

        to.sentence("Promise 3", "UNKNOWN, OUTSIDE.");
        for (int no : NO_SHELVES) {
            to.is("shelf " + no, x.put(no, 1, 1), UNKNOWN);
        }
        for (int far : FAR) {
            to.is("m " + far, x.put(0, far, 1), OUTSIDE);
            to.is("n " + far, x.put(0, 1, far), OUTSIDE);
        }
        isShelf("refused", x, 0, 0, -1);
    }

    /** deed() on shelves 0 and 1 with these numbers, onto shelf 2, which is 5 and 6 times B ahead of it. */
    private void isDeed(int[] base, int what, int[] one, int[] other, int[] made) {
        RingBases x = Bases.in(base);
        x.put(0, one[0], one[1]);
        x.put(1, other[0], other[1]);
        x.put(2, 5, 6);
        String label = "deed " + what + " of " + one[0] + ", " + one[1] + " and " + other[0] + ", " + other[1];
        if (made == null) {
            to.is(label, x.deed(2, what, 0, 1), FULL);
            isShelf(label + " refused", x, 2, 5, 6);
            to.is(label + " refused, undoable", x.told(11), 4);
        } else {
            int answer = x.deed(2, what, 0, 1);
            to.is(label, answer, x.put(3, made[0], made[1]));
            isShelf(label, x, 2, made[0], made[1]);
        }
    }

    private static int[] pair(int m, int n) {
        return new int[] {m, n};
    }

    private void deed() {
        to.sentence("Promise 4", "A SHELF becomes (what = 0) one and another together, 1 less it, 2 times it, 3 the former "
                + "times B: 1, 0, -1 as put() tells.");
        RingBases x = Bases.in(4, -2);
        x.put(0, 3, 5);
        x.put(1, -3, -5);
        to.is("together nothing", x.deed(2, 0, 0, 1), 0);
        to.is("less itself", x.deed(2, 1, 0, 0), 0);
        to.is("times nothing", x.deed(2, 2, 0, 2), 0);
        to.is("nothing times B", x.deed(2, 3, 2, 0), 0);
        to.is("below 0", x.deed(2, 3, 1, 0), -1);
        to.is("above 0", x.deed(2, 2, 1, 1), 1);
        to.is("onto the former itself, which is the other, too", x.deed(0, 2, 0, 0), 1);
        isShelf("a square onto itself", x, 0, 9 - 50, 30 + 100);
        to.is("onto the other", x.deed(1, 1, 2, 1), 1);
        isShelf("onto the other", x, 1, 9 - 50 + 3, 30 + 100 + 5);

        to.sentence("Promise 4", "FULL: m or n would be out of bounds.");
        int[] golden = {1, 1};
        for (int side : new int[] {1, -1}) {
            int far = side * 999999;
            isDeed(golden, 0, pair(far - side, 0), pair(side, 0), pair(far, 0));
            isDeed(golden, 0, pair(far, 0), pair(side, 0), null);
            isDeed(golden, 0, pair(0, far - side), pair(0, side), pair(0, far));
            isDeed(golden, 0, pair(0, far), pair(0, side), null);
            isDeed(golden, 0, pair(far, far), pair(far, far), null);
            isDeed(golden, 1, pair(far - side, 0), pair(-side, 0), pair(far, 0));
            isDeed(golden, 1, pair(far, 0), pair(-side, 0), null);
            isDeed(golden, 1, pair(0, far - side), pair(0, -side), pair(0, far));
            isDeed(golden, 1, pair(0, far), pair(0, -side), null);
            isDeed(golden, 2, pair(side * 333333, 0), pair(3, 0), pair(far, 0));
            isDeed(golden, 2, pair(side * 500000, 0), pair(2, 0), null);
            isDeed(golden, 2, pair(0, side * 333333), pair(3, 0), pair(0, far));
            isDeed(golden, 2, pair(0, side * 500000), pair(2, 0), null);
            // Reckoned by 32 bits these products would be 0.
            isDeed(golden, 2, pair(side * 65536, 0), pair(65536, 0), null);
            isDeed(golden, 2, pair(0, side * 65536), pair(0, 65536), null);
            isDeed(golden, 3, pair(far - side, side), pair(0, 0), pair(side, far));
            isDeed(golden, 3, pair(far, side), pair(0, 0), null);
            isDeed(new int[] {9, 9}, 3, pair(-far, side * 111111), pair(0, 0), pair(far, 0));
            isDeed(new int[] {9, 9}, 3, pair(-far, side * 111112), pair(0, 0), null);
            isDeed(new int[] {9, -7}, 3, pair(-far, side * 142857), pair(0, 0), pair(-far, side * 285714));
            isDeed(new int[] {9, -7}, 3, pair(-far, side * 142858), pair(0, 0), null);
        }
        for (int[] base : Bases.all()) {
            isDeed(base, 2, pair(999999, 999999), pair(999999, 999999), null);
            isDeed(base, 2, pair(999999, -999999), pair(-999999, 999999), null);
            isDeed(base, 2, pair(999999, -999999), pair(1, 0), pair(999999, -999999));
            isDeed(base, 2, pair(999999, -999999), pair(-1, 0), pair(-999999, 999999));
        }
    }

    private void deedUnknownAndOutside() {
        to.sentence("Promise 4", "UNKNOWN (the other one with what 3, too), OUTSIDE (what),");
        RingBases x = new RingBases();
        for (int no : NO_SHELVES) {
            for (int what = 0; what <= 3; what++) {
                to.is("to " + no + ", what " + what, x.deed(no, what, 0, 0), UNKNOWN);
                to.is("one " + no + ", what " + what, x.deed(0, what, no, 0), UNKNOWN);
                to.is("other " + no + ", what " + what, x.deed(0, what, 0, no), UNKNOWN);
            }
        }
        for (int what : new int[] {-1, 4, LEAST, GREATEST}) {
            to.is("what " + what, x.deed(0, what, 0, 0), OUTSIDE);
        }
        for (int what = 0; what <= 3; what++) {
            to.is("the last shelf, what " + what, x.deed(3, what, 3, 3), 0);
        }
        to.is("only these four are changes", x.told(11), 4);
    }

    private void drift() {
        to.sentence("Promise 5", "A SHELF BY LOTS of a SEED (1 .. 999999): its m and 2000.");
        RingBases x = new RingBases();
        to.is("the least seed", x.drift(0, 1), 2201);
        to.is("the greatest seed", x.drift(3, 999999), 2191);
        to.is("the least m, as it is", x.drift(0, 2001), 1000);
        to.is("the least m, turned", x.drift(0, 1430), 1000);
        to.is("the greatest m, as it is", x.drift(0, 3431), 3000);
        to.is("the greatest m, turned", x.drift(0, 10005), 3000);
        to.is("m is 0", x.drift(0, 715), 2000);
        to.is("the same seed, the same number", x.drift(0, 1), 2201);

        to.sentence("Promise 5", "UNKNOWN, OUTSIDE.");
        for (int no : NO_SHELVES) {
            to.is("shelf " + no, x.drift(no, 1), UNKNOWN);
        }
        for (int seed : new int[] {0, -1, 1000000, LEAST, GREATEST}) {
            to.is("seed " + seed, x.drift(0, seed), OUTSIDE);
        }
        isShelf("refused", x, 0, 201, 918);
    }

    private void undo() {
        to.sentence("Promise 6", "The latest is undone: how many more can be.");
        RingBases x = new RingBases();
        for (int i = 1; i <= 9; i++) {
            x.put(0, i, 0);
        }
        for (int left = 7; left >= 0; left--) {
            to.is("how many more", x.undo(), left);
            isShelf("the latest is undone", x, 0, left + 1, 0);
        }

        to.sentence("Promise 6", "NOT: none.");
        to.is("all eight are undone", x.undo(), NOT);
        isShelf("the ninth from the end is lost", x, 0, 1, 0);
        to.is("of a new object", new RingBases().undo(), NOT);
        x.feed('1');
        x.clear();
        x.write(0);
        to.is("feed(), clear(), write() are no changes that can be undone", x.undo(), NOT);
        x.put(0, 5, 5);
        to.is("one change", x.undo(), 0);
        to.is("an undoing cannot be undone", x.undo(), NOT);
    }

    private void toldOfBase() {
        to.sentence("Promise 7", "0 a, 1 b and 10, 2 TOP, 3 whole part of B,");
        for (int[] base : Bases.all()) {
            RingBases x = Bases.in(base);
            to.is("a" + Bases.name(base), x.told(0), base[0]);
            to.is("b and 10" + Bases.name(base), x.told(1), base[1] + 10);
            to.is("TOP" + Bases.name(base), x.told(2), Bases.top(base));
            to.is("whole part of B" + Bases.name(base), x.told(3), Bases.worth(base).intValue());
        }

        to.sentence("Promise 7", "OUTSIDE.");
        for (int what : new int[] {-1, 12, LEAST, GREATEST}) {
            to.is("told(" + what + ")", new RingBases().told(what), OUTSIDE);
        }
    }

    private void toldOfWord() {
        RingBases x = new RingBases();
        to.sentence("Promise 7", "4 signs of THE WORD,");
        to.is("none", x.told(4), 0);
        Look.feed(x, ".");
        to.is("a point alone", x.told(4), 1);
        Look.feed(x, "1".repeat(59) + ".");
        to.is("60", x.told(4), 60);
        x.feed('1');
        to.is("60, and one refused", x.told(4), 60);

        to.sentence("Promise 7", "5 1 it is WELL, 0 not, 6 BADLY,");
        x.clear();
        to.is("empty: WELL", x.told(5), 1);
        to.is("empty: BADLY", x.told(6), NONE);
        Look.feed(x, "1");
        to.is("1: WELL", x.told(5), 1);
        to.is("1: BADLY", x.told(6), NONE);
        Look.feed(x, "11");
        to.is("11: WELL", x.told(5), 0);
        to.is("11: BADLY", x.told(6), 0);
        x.base(2, 1);
        to.is("11 in another base: WELL", x.told(5), 1);
        to.is("11 in another base: BADLY", x.told(6), NONE);
        Look.feed(x, "." + "0".repeat(58) + "3");
        to.is("the last sign: WELL", x.told(5), 0);
        to.is("the last sign: BADLY", x.told(6), 59);

        to.sentence("Promise 7", "7 SHIFT,");
        to.is("59 behind the point", x.told(7), 59);
        Look.feed(x, "1".repeat(59) + ".");
        to.is("none behind the point", x.told(7), 0);
        Look.feed(x, "1".repeat(60));
        to.is("no point", x.told(7), 0);
        x.clear();
        to.is("no sign", x.told(7), 0);
    }

    private void toldOfWorth() {
        to.sentence("Promise 7", "8 m of its WORTH and 1000000, 9 n and 1000000 (FULL),");
        RingBases x = Bases.in(9, -7);
        to.is("m of nothing", x.told(8), 1000000);
        to.is("n of nothing", x.told(9), 1000000);
        Look.feed(x, "30474160");
        to.is("m below 0", x.told(8), 1000000 - 859929);
        to.is("n at the bound", x.told(9), 1999999);
        Look.feed(x, "30474170");
        to.is("m, n past the bound", x.told(8), FULL);
        to.is("n past the bound", x.told(9), FULL);

        to.sentence("Promise 7", "10 FIGURES of NORMAL (FULL, NOT),");
        to.is("past the bound", x.told(10), FULL);
        x.clear();
        to.is("of nothing: the figure 0", x.told(10), 1);
        Look.feed(x, "0".repeat(60));
        to.is("of 60 zeros: the figure 0", x.told(10), 1);
        x.base(1, 1);
        Look.feed(x, "2");
        to.is("of 2, that is 10.01", x.told(10), 4);
        Look.feed(x, "1000101000000000001001010101000");
        to.is("n at the bound", x.told(10), 31);
        Look.feed(x, "1000101000000000001010000000000");
        to.is("n past the bound", x.told(10), FULL);
        // NOT never comes: TermsOfWords says why.
    }

    private void toldUndoable() {
        to.sentence("Promise 7", "11 how many can be undone.");
        RingBases x = new RingBases();
        to.is("none", x.told(11), 0);
        for (int i = 1; i <= 10; i++) {
            x.put(0, i, 0);
            to.is("behind " + i + " changes", x.told(11), Math.min(i, 8));
        }
        x.undo();
        to.is("behind an undoing", x.told(11), 7);
        x.undo();
        x.undo();
        x.put(0, 1, 0);
        to.is("behind two more and a change", x.told(11), 6);
    }

    private void shelfParts() {
        to.sentence("Promise 8", "Of a SHELF: what = 0 m, 1 n, 2 1 above 0, 0, -1,");
        RingBases x = Bases.in(9, 9);
        x.put(0, 999999, -999999);
        x.put(3, -999999, 999999);
        isShelf("at the bounds", x, 0, 999999, -999999);
        isShelf("at the bounds", x, 3, -999999, 999999);
        to.is("below 0", x.shelf(0, 2), -1);
        to.is("above 0", x.shelf(3, 2), 1);
        to.is("0", x.shelf(1, 2), 0);
        int[] tiny = Bases.tiny(new int[] {9, 9}, 999999);
        x.put(1, tiny[0], tiny[1]);
        to.is("above 0 by a little", x.shelf(1, 2), 1);

        to.sentence("Promise 8", "8 its whole part.");
        to.is("of a little above 0", x.shelf(1, 8), 0);
        x.put(1, -tiny[0], -tiny[1]);
        to.is("of a little below 0", x.shelf(1, 8), -1);
        x.put(1, 7 - tiny[0], -tiny[1]);
        to.is("of a little below 7", x.shelf(1, 8), 6);
        x.put(1, -7, 0);
        to.is("of -7", x.shelf(1, 8), -7);
        x.put(1, 0, 0);
        to.is("of 0", x.shelf(1, 8), 0);
        x.put(1, 999999, 999999);
        to.is("of the greatest number", x.shelf(1, 8), 10908316);
        x.put(1, -999999, -999999);
        to.is("of the least number", x.shelf(1, 8), -10908317);

        to.sentence("Promise 8", "UNKNOWN, OUTSIDE.");
        for (int no : NO_SHELVES) {
            for (int what = 0; what <= 8; what++) {
                to.is("shelf(" + no + ", " + what + ")", x.shelf(no, what), UNKNOWN);
            }
        }
        for (int what : new int[] {-1, 9, LEAST, GREATEST}) {
            to.is("what " + what, x.shelf(0, what), OUTSIDE);
        }
    }

    private void shelfWritten() {
        RingBases x = new RingBases();
        to.sentence("Promise 8", "3 FIGURES ahead of its point,");
        to.is("of 0", x.shelf(0, 3), 1);
        x.put(0, 999999, 999999);
        to.is("the most of all", x.shelf(0, 3), 31);
        int[] tiny = Bases.tiny(new int[] {1, 1}, 999999);
        x.put(0, tiny[0], tiny[1]);
        to.is("of a millionth", x.shelf(0, 3), 1);

        to.sentence("Promise 8", "4 FIGURES behind it (40 at most),");
        to.is("of 0", x.shelf(1, 4), 0);
        RingBases y = Bases.in(9, 9);
        y.put(0, -612, 124);
        y.put(1, 763, -40);
        y.put(2, -725, 163);
        y.put(3, 999999, 999999);
        to.is("39", y.shelf(0, 4), 39);
        to.is("40", y.shelf(1, 4), 40);
        to.is("41 would be", y.shelf(2, 4), 40);
        to.is("many would be", y.shelf(3, 4), 40);

        to.sentence("Promise 8", "5 1 it ENDS, 0 not within 40,");
        to.is("0 ends", x.shelf(1, 5), 1);
        to.is("with the 39th", y.shelf(0, 5), 1);
        to.is("with the 40th", y.shelf(1, 5), 1);
        to.is("with the 41st", y.shelf(2, 5), 0);
        to.is("far behind", y.shelf(3, 5), 0);

        to.sentence("Promise 8", "6 LEAD, 7 ROUND (NONE: neither is told),");
        to.is("it ends: LEAD", y.shelf(1, 6), NONE);
        to.is("it ends: ROUND", y.shelf(1, 7), NONE);
        to.is("it ends behind the 40: LEAD", y.shelf(2, 6), NONE);
        to.is("it ends behind the 40: ROUND", y.shelf(2, 7), NONE);
        RingBases z = Bases.in(9, -7);
        z.put(0, -8, 1);
        z.put(1, -10947, 1461);
        z.put(2, -12588, 1594);
        to.is("none ahead: LEAD", z.shelf(0, 6), 0);
        to.is("none ahead: ROUND", z.shelf(0, 7), 1);
        to.is("39 ahead: LEAD", z.shelf(1, 6), 39);
        to.is("39 ahead: ROUND", z.shelf(1, 7), 1);
        to.is("40 ahead: LEAD", z.shelf(2, 6), NONE);
        to.is("40 ahead: ROUND", z.shelf(2, 7), NONE);
    }

    private void shelfNot() {
        to.sentence("Promise 8", "(3 to 7 NOT, if it is below 0.)");
        RingBases x = new RingBases();
        int[] tiny = Bases.tiny(new int[] {1, 1}, 999999);
        x.put(0, -tiny[0], -tiny[1]);
        for (int what = 3; what <= 7; what++) {
            to.is("a little below 0, what " + what, x.shelf(0, what), NOT);
        }
        to.is("a little below 0, its m", x.shelf(0, 0), -tiny[0]);
        to.is("a little below 0, its n", x.shelf(0, 1), -tiny[1]);
        to.is("a little below 0, its sign", x.shelf(0, 2), -1);
        to.is("a little below 0, its whole part", x.shelf(0, 8), -1);
        x.put(0, 0, 0);
        for (int what = 3; what <= 7; what++) {
            to.holds("0 is not below 0, what " + what, x.shelf(0, what) >= NONE);
        }
    }

    private void figure() {
        to.sentence("Promise 9", "FIGURE at a place (0 ahead of the point, 1, 2 .. to the left, -1, -2 .. behind it; "
                + "-40 .. 60) of a SHELF; 0: none is WRITTEN there.");
        RingBases x = new RingBases();
        to.is("0 of 0", x.figure(0, 0), 0);
        x.put(0, 4, 0);
        to.is("the highest that is written", x.figure(0, 2), 1);
        to.is("left of it", x.figure(0, 3), 0);
        to.is("the lowest that is written", x.figure(0, -2), 1);
        to.is("behind it", x.figure(0, -3), 0);
        to.is("the highest place", x.figure(0, 60), 0);
        to.is("the lowest place", x.figure(0, -40), 0);
        x.put(0, 999999, 999999);
        to.is("the highest figure of all", x.figure(0, 30), 1);
        to.is("left of it", x.figure(0, 31), 0);
        RingBases y = Bases.in(9, 9);
        y.put(0, 763, -40);
        to.is("the 40th figure behind the point", y.figure(0, -40), 9);
        y.put(0, 9, 0);
        to.is("just ahead of the point", y.figure(0, 0), 9);
        to.is("just behind the point", y.figure(0, -1), 0);

        to.sentence("Promise 9", "UNKNOWN, OUTSIDE, NOT: it is below 0.");
        for (int no : NO_SHELVES) {
            to.is("shelf " + no, x.figure(no, 0), UNKNOWN);
        }
        for (int place : new int[] {-41, 61, LEAST, GREATEST}) {
            to.is("place " + place, x.figure(0, place), OUTSIDE);
        }
        int[] tiny = Bases.tiny(new int[] {1, 1}, 999999);
        x.put(0, -tiny[0], -tiny[1]);
        for (int place : new int[] {-40, -1, 0, 60}) {
            to.is("a little below 0, place " + place, x.figure(0, place), NOT);
        }
        to.is("0 is not below 0", x.figure(1, 60), 0);
    }

    private void compare() {
        to.sentence("Promise 10", "Whether one is GREATER than another: 1, 0 (alike), -1.");
        RingBases x = Bases.in(9, 9);
        x.put(0, 999999, 999999);
        x.put(1, -999999, -999999);
        to.is("the greatest with the least", x.compare(0, 1), 1);
        to.is("the least with the greatest", x.compare(1, 0), -1);
        to.is("one with itself", x.compare(0, 0), 0);
        to.is("nothing with nothing", x.compare(2, 3), 0);
        x.put(3, 999999, 999999);
        to.is("alike on two shelves", x.compare(0, 3), 0);
        x.put(0, 999999, -999999);
        x.put(1, -999999, 999999);
        to.is("farthest apart the other way", x.compare(0, 1), -1);
        int[] tiny = Bases.tiny(new int[] {9, 9}, 499999);
        x.put(0, 500000 + tiny[0], tiny[1]);
        x.put(1, 500000, 0);
        to.is("greater by a little", x.compare(0, 1), 1);
        to.is("less by a little", x.compare(1, 0), -1);

        to.sentence("Promise 10", "UNKNOWN.");
        for (int no : NO_SHELVES) {
            to.is("one " + no, x.compare(no, 0), UNKNOWN);
            to.is("other " + no, x.compare(0, no), UNKNOWN);
            to.is("both " + no, x.compare(no, no), UNKNOWN);
        }
    }

    private void beside() {
        to.sentence("Promise 11", "BESIDE.");
        RingBases x = Bases.in(9, 9);
        to.is("of 0", x.beside(0), 0);
        x.put(0, 999999, -999999);
        to.is("the greatest", x.beside(0), 1908325);
        x.put(0, -999999, 999999);
        to.is("the least", x.beside(0), -1908326);
        x.put(0, 1, 0);
        to.is("of 1", x.beside(0), 1);
        x.put(0, 0, 1);
        to.is("of B", x.beside(0), -1);
        x.base(9, -7);
        to.is("of B, b below 0", x.beside(0), 0);

        to.sentence("Promise 11", "UNKNOWN.");
        for (int no : NO_SHELVES) {
            to.is("shelf " + no, x.beside(no), UNKNOWN);
        }
    }

    private void norm() {
        to.sentence("Promise 12", "NORM.");
        RingBases x = Bases.in(9, 9);
        to.is("of 0", x.norm(0), 0);
        x.put(0, 999999, -999999);
        to.is("the least", x.norm(0), -16999966000017L);
        x.base(9, -7);
        x.put(0, -999999, -999999);
        to.is("the greatest", x.norm(0), 16999966000017L);

        to.sentence("Promise 12", "UNKNOWN.");
        for (int no : NO_SHELVES) {
            to.is("shelf " + no, x.norm(no), UNKNOWN);
        }
    }
}
