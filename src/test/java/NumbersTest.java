/** Promises 1 to 12: the base and numbers. */
public final class NumbersTest {
    private static final int NONE = -1, UNKNOWN = -2000000001, OUTSIDE = -2000000002, NOT = -2000000003, FULL = -2000000004;
    private static final int[] NO_SHELVES = {-1, 4, 5, Integer.MAX_VALUE, Integer.MIN_VALUE};
    private static final Due due = new Due("NumbersTest");

    public static void main(String[] args) {
        newObject();
        base();
        baseRefused();
        put();
        putRefused();
        deedSums();
        deedProducts();
        deedRefused();
        drift();
        undo();
        undoKeepsEight();
        undoSkipsWhatWasRefused();
        told();
        toldOfWords();
        shelf();
        shelfGoesRound();
        shelfAtTheLastFigure();
        shelfRefused();
        shelfWrittenAnew();
        figure();
        compare();
        beside();
        norm();
        due.finish();
    }

    private static void isShelf(RingBases x, String label, int shelf, int m, int n) {
        due.is(label + ", m of " + shelf, x.shelf(shelf, 0), m);
        due.is(label + ", n of " + shelf, x.shelf(shelf, 1), n);
    }

    // Promise 1
    private static void newObject() {
        RingBases x = new RingBases();
        due.is("new: a", x.told(0), 1);
        due.is("new: b", x.told(1), 11);
        for (int shelf = 0; shelf < 4; shelf++) {
            isShelf(x, "new", shelf, 0, 0);
        }
        due.is("new: signs", x.told(4), 0);
        due.is("new: undoable", x.told(11), 0);
        due.is("new: image 0", x.goBack(0), NOT);
        due.is("new: image 1", x.goBack(1), NOT);
        RingBases y = new RingBases();
        x.base(5, 2);
        x.put(2, 3, 4);
        due.is("new: another object's base stays", y.told(0), 1);
        isShelf(y, "new: another object's shelf stays", 2, 0, 0);
    }

    // Promise 2
    private static void base() {
        RingBases x = new RingBases();
        x.put(1, 7, -3);
        due.is("base: -3 times the golden base and 7", x.shelf(1, 2), 1);
        int count = 0;
        for (int a = -2; a <= 11; a++) {
            for (int b = -12; b <= 12; b++) {
                boolean above = b >= 1 && b <= a;
                boolean below = b <= -1 && b >= 2 - a;
                boolean can = a >= 1 && a <= 9 && (above || below);
                count += can ? 1 : 0;
                due.is("base(" + a + ", " + b + ")", x.base(a, b), !can ? OUTSIDE : above ? a : a - 1);
            }
        }
        due.is("base: how many there are", count, 45 + 28);
        due.is("base: the last one stays, a", x.told(0), 9);
        due.is("base: the last one stays, b", x.told(1), 19);
        isShelf(x, "base: shelves stay", 1, 7, -3);
        due.is("base: the shelf's worth is another", x.shelf(1, 2), -1);
    }

    private static void baseRefused() {
        RingBases x = new RingBases();
        x.base(4, -2);
        int[][] wrong = {{0, 1}, {10, 1}, {3, 0}, {3, 4}, {3, -2}, {2, -1}, {1, -1}, {-3, -1},
            {Integer.MIN_VALUE, 1}, {Integer.MAX_VALUE, 1}, {5, Integer.MIN_VALUE}, {5, Integer.MAX_VALUE}};
        for (int[] w : wrong) {
            due.is("base(" + w[0] + ", " + w[1] + ")", x.base(w[0], w[1]), OUTSIDE);
            due.is("base refused: a", x.told(0), 4);
            due.is("base refused: b", x.told(1), 8);
            due.is("base refused: undoable", x.told(11), 1);
        }
    }

    // Promise 3
    private static void put() {
        RingBases x = new RingBases();
        due.is("put(0, 5, 5)", x.put(0, 5, 5), 1);
        due.is("put(0, 0, 0)", x.put(0, 0, 0), 0);
        due.is("put(0, -1, 0)", x.put(0, -1, 0), -1);
        due.is("put(0, 0, -1)", x.put(0, 0, -1), -1);
        due.is("put(0, -8, 5)", x.put(0, -8, 5), 1);
        due.is("put(0, -13, 8)", x.put(0, -13, 8), -1);
        // Neighbours among Fibonacci's numbers are nearest to the golden base, by turns above and below.
        due.is("put(0, 832040, -514229)", x.put(0, 832040, -514229), -1);
        due.is("put(0, -832040, 514229)", x.put(0, -832040, 514229), 1);
        due.is("put(0, 514229, -317811)", x.put(0, 514229, -317811), 1);
        due.is("put(3, 999999, -999999)", x.put(3, 999999, -999999), -1);
        isShelf(x, "put", 3, 999999, -999999);
        due.is("put(2, -999999, 999999)", x.put(2, -999999, 999999), 1);
        isShelf(x, "put", 2, -999999, 999999);
        isShelf(x, "put leaves others", 1, 0, 0);
    }

    private static void putRefused() {
        RingBases x = new RingBases();
        x.put(0, 3, 4);
        for (int shelf : NO_SHELVES) {
            due.is("put(" + shelf + ", 1, 1)", x.put(shelf, 1, 1), UNKNOWN);
            due.is("put(" + shelf + ", 1000000, 1)", x.put(shelf, 1000000, 1), UNKNOWN);
        }
        for (int far : new int[] {1000000, -1000000, Integer.MAX_VALUE, Integer.MIN_VALUE}) {
            due.is("put(0, " + far + ", 0)", x.put(0, far, 0), OUTSIDE);
            due.is("put(0, 0, " + far + ")", x.put(0, 0, far), OUTSIDE);
        }
        isShelf(x, "put refused", 0, 3, 4);
        due.is("put refused: undoable", x.told(11), 1);
    }

    // Promise 4
    private static void deedSums() {
        RingBases x = new RingBases();
        x.put(0, 3, 4);
        x.put(1, -5, 2);
        due.is("deed: together", x.deed(2, 0, 0, 1), 1);
        isShelf(x, "deed: together", 2, -2, 6);
        due.is("deed: less", x.deed(3, 1, 1, 0), -1);
        isShelf(x, "deed: less", 3, -8, -2);
        due.is("deed: less itself", x.deed(3, 1, 3, 3), 0);
        isShelf(x, "deed: less itself", 3, 0, 0);
        due.is("deed: onto the former", x.deed(0, 0, 0, 1), 1);
        isShelf(x, "deed: onto the former", 0, -2, 6);
        due.is("deed: onto the other", x.deed(1, 1, 0, 1), 1);
        isShelf(x, "deed: onto the other", 1, 3, 4);
        x.put(0, 999998, -999998);
        x.put(1, 1, -1);
        due.is("deed: to the bounds", x.deed(2, 0, 0, 1), -1);
        isShelf(x, "deed: to the bounds", 2, 999999, -999999);
        due.is("deed: past the bounds", x.deed(3, 0, 2, 1), FULL);
        isShelf(x, "deed: past the bounds", 3, 0, 0);
        x.put(1, 0, 1);
        due.is("deed: n alone past the bounds", x.deed(3, 1, 2, 1), FULL);
        x.put(1, -1, 0);
        due.is("deed: m alone past the bounds", x.deed(3, 1, 2, 1), FULL);
    }

    private static void deedProducts() {
        RingBases x = new RingBases();
        x.base(4, -2);
        x.put(0, 3, 5);
        x.put(1, -7, 2);
        // 3 * -7 + 5 * 2 * -2, and 3 * 2 + 5 * -7 + 5 * 2 * 4
        due.is("deed: times", x.deed(2, 2, 0, 1), -1);
        isShelf(x, "deed: times", 2, -41, 11);
        due.is("deed: times B", x.deed(3, 3, 0, 1), 1);
        isShelf(x, "deed: times B", 3, -10, 23);
        due.is("deed: times B onto itself", x.deed(0, 3, 0, 0), 1);
        isShelf(x, "deed: times B onto itself", 0, -10, 23);
        x.base(3, 2);
        due.is("deed: a square onto itself", x.deed(0, 2, 0, 0), 1);
        isShelf(x, "deed: a square onto itself", 0, 100 + 529 * 2, -460 + 529 * 3);
        x.put(1, 0, 333333);
        due.is("deed: times B to the bounds", x.deed(2, 3, 1, 0), 1);
        isShelf(x, "deed: times B to the bounds", 2, 666666, 999999);
        x.put(1, 1, 333333);
        due.is("deed: times B past the bounds", x.deed(2, 3, 1, 0), FULL);
        x.put(1, 999999, 999999);
        x.put(2, -999999, -999999);
        due.is("deed: the greatest product", x.deed(3, 2, 1, 1), FULL);
        due.is("deed: the least product", x.deed(3, 2, 1, 2), FULL);
        x.put(0, 0, 0);
        due.is("deed: by nothing", x.deed(3, 2, 1, 0), 0);
    }

    private static void deedRefused() {
        RingBases x = new RingBases();
        for (int shelf : NO_SHELVES) {
            for (int what = -1; what <= 4; what++) {
                due.is("deed: no shelf to, what " + what, x.deed(shelf, what, 0, 0), UNKNOWN);
                due.is("deed: no shelf one, what " + what, x.deed(0, what, shelf, 0), UNKNOWN);
                due.is("deed: no shelf other, what " + what, x.deed(0, what, 0, shelf), UNKNOWN);
            }
        }
        for (int what : new int[] {-1, 4, Integer.MAX_VALUE, Integer.MIN_VALUE}) {
            due.is("deed: what " + what, x.deed(0, what, 0, 0), OUTSIDE);
        }
        due.is("deed refused: undoable", x.told(11), 0);
    }

    // Promise 5
    private static void drift() {
        RingBases x = new RingBases();
        // 16807 leaves 799 by 2001, 282475249 leaves 82: -201 and -918 times B, turned.
        due.is("drift(0, 1)", x.drift(0, 1), 2201);
        isShelf(x, "drift(0, 1)", 0, 201, 918);
        due.is("drift: a change", x.told(11), 1);
        due.is("drift(1, 5)", x.drift(1, 5), 2994);
        isShelf(x, "drift(1, 5), not turned", 1, 994, -590);
        due.is("drift(2, 999999)", x.drift(2, 999999), 2191);
        isShelf(x, "drift(2, 999999)", 2, 191, 360);
        x.base(9, 9);
        due.is("drift(1, 5) in another base", x.drift(1, 5), 1006);
        isShelf(x, "drift(1, 5) in another base, turned", 1, -994, 590);
        for (int shelf : NO_SHELVES) {
            due.is("drift(" + shelf + ", 0)", x.drift(shelf, 0), UNKNOWN);
        }
        for (int seed : new int[] {0, -1, 1000000, Integer.MAX_VALUE, Integer.MIN_VALUE}) {
            due.is("drift(1, " + seed + ")", x.drift(1, seed), OUTSIDE);
        }
        isShelf(x, "drift refused", 1, -994, 590);
        due.is("drift refused: undoable", x.told(11), 5);
    }

    // Promise 6
    private static void undo() {
        RingBases x = new RingBases();
        due.is("undo: none", x.undo(), NOT);
        x.put(0, 1, 2);
        x.base(6, -3);
        x.deed(1, 3, 0, 0);
        x.drift(2, 7);
        x.feed('1');
        x.feed('2');
        x.read(3);
        due.is("undo: read() is a put()", x.told(11), 5);
        isShelf(x, "undo: read", 3, 2, 1);
        due.is("undo read", x.undo(), 4);
        isShelf(x, "undo read", 3, 0, 0);
        due.is("undo drift", x.undo(), 3);
        isShelf(x, "undo drift", 2, 0, 0);
        isShelf(x, "undo: not yet the deed", 1, -6, 13);
        due.is("undo deed", x.undo(), 2);
        isShelf(x, "undo deed", 1, 0, 0);
        due.is("undo base", x.undo(), 1);
        due.is("undo base: a", x.told(0), 1);
        due.is("undo base: b", x.told(1), 11);
        due.is("undo put", x.undo(), 0);
        isShelf(x, "undo put", 0, 0, 0);
        due.is("undo: no more", x.undo(), NOT);
        due.is("undo: the word stays", x.told(4), 2);
    }

    private static void undoKeepsEight() {
        RingBases x = new RingBases();
        for (int i = 1; i <= 20; i++) {
            x.put(0, i, -i);
            due.is("undo: kept after " + i, x.told(11), Math.min(i, 8));
        }
        for (int i = 19; i >= 12; i--) {
            due.is("undo: back to " + i, x.undo(), i - 12);
            isShelf(x, "undo: back to " + i, 0, i, -i);
        }
        due.is("undo: the oldest are lost", x.undo(), NOT);
        isShelf(x, "undo: the oldest are lost", 0, 12, -12);
        x.put(0, 12, -12);
        due.is("undo: a change to the same counts", x.told(11), 1);
        x.base(1, 1);
        due.is("undo: a base of the same counts", x.undo(), 1);
    }

    private static void undoSkipsWhatWasRefused() {
        RingBases x = new RingBases();
        x.put(0, 999999, 1);
        x.put(4, 1, 1);
        x.put(0, 1000000, 1);
        x.base(1, 2);
        x.deed(0, 0, 0, 0);
        x.drift(0, 0);
        for (int i = 0; i < 40; i++) {
            x.feed('1');
        }
        due.is("undo: read refused", x.read(0), FULL);
        x.write(0);
        x.clear();
        due.is("undo: only what was not refused", x.undo(), 0);
        isShelf(x, "undo: only what was not refused", 0, 0, 0);
    }

    // Promise 7
    private static void told() {
        RingBases x = new RingBases();
        for (int a = 1; a <= 9; a++) {
            for (int b = 2 - a; b <= a; b++) {
                if (x.base(a, b) == OUTSIDE) {
                    continue;
                }
                double root = (a + Math.sqrt(a * a + 4 * b)) / 2;
                String of = " of " + a + ", " + b;
                due.is("told(0)" + of, x.told(0), a);
                due.is("told(1)" + of, x.told(1), b + 10);
                due.is("told(2)" + of, x.told(2), b > 0 ? a : a - 1);
                due.is("told(3)" + of, x.told(3), (int) Math.floor(root));
            }
        }
        for (int what : new int[] {-1, 12, Integer.MAX_VALUE, Integer.MIN_VALUE}) {
            due.is("told(" + what + ")", x.told(what), OUTSIDE);
        }
    }

    private static void toldOfWords() {
        RingBases x = new RingBases();
        x.feed('1');
        x.feed('0');
        x.feed('.');
        x.feed('1');
        x.feed('1');
        due.is("told(4) of 10.11", x.told(4), 5);
        due.is("told(5) of 10.11", x.told(5), 0);
        due.is("told(6) of 10.11", x.told(6), 0);
        due.is("told(7) of 10.11", x.told(7), 2);
        due.is("told(8) of 10.11", x.told(8), 1000002);
        due.is("told(9) of 10.11", x.told(9), 1000003);
        due.is("told(10) of 10.11", x.told(10), 5);
        // One step from Fibonacci's numbers: 28 figures are within the bounds, n is the first past them.
        x.clear();
        for (int i = 0; i < 30; i++) {
            x.feed(i == 0 ? '1' : '0');
        }
        due.is("told(8) within the bounds", x.told(8), 1000000 + 317811);
        due.is("told(9) within the bounds", x.told(9), 1000000 + 514229);
        due.is("told(10) within the bounds", x.told(10), 30);
        x.feed('0');
        due.is("told(9) still within", x.told(9), 1000000 + 832040);
        x.feed('0');
        for (int what = 8; what <= 10; what++) {
            due.is("told(" + what + ") past the bounds", x.told(what), FULL);
        }
        due.is("told(5) past the bounds", x.told(5), 1);
    }

    // Promise 8
    private static void shelf() {
        RingBases x = new RingBases();
        int[] ofZero = {0, 0, 0, 1, 0, 1, NONE, NONE, 0};
        for (int what = 0; what <= 8; what++) {
            due.is("shelf(0, " + what + ") of 0", x.shelf(0, what), ofZero[what]);
        }
        x.put(0, 1, 0);
        int[] ofOne = {1, 0, 1, 1, 0, 1, NONE, NONE, 1};
        for (int what = 0; what <= 8; what++) {
            due.is("shelf(0, " + what + ") of 1", x.shelf(0, what), ofOne[what]);
        }
        // 4 is 101.01 in the golden base.
        x.put(0, 4, 0);
        int[] ofFour = {4, 0, 1, 3, 2, 1, NONE, NONE, 4};
        for (int what = 0; what <= 8; what++) {
            due.is("shelf(0, " + what + ") of 4", x.shelf(0, what), ofFour[what]);
        }
        x.put(0, -4, 1);
        int[] ofBelow = {-4, 1, -1, NOT, NOT, NOT, NOT, NOT, -3};
        for (int what = 0; what <= 8; what++) {
            due.is("shelf(0, " + what + ") of -4 and B", x.shelf(0, what), ofBelow[what]);
        }
        x.put(0, -5, 0);
        due.is("shelf: whole part of -5", x.shelf(0, 8), -5);
        x.base(9, 9);
        x.put(0, 999999, 999999);
        due.is("shelf: the greatest whole part", x.shelf(0, 8), 10908316);
        x.put(0, -999999, -999999);
        due.is("shelf: the least whole part", x.shelf(0, 8), -10908317);
    }

    private static void shelfGoesRound() {
        RingBases x = new RingBases();
        x.base(3, -1);
        // B less 2, times B, is 1 and B less 2 again.
        x.put(0, -2, 1);
        int[] due0 = {-2, 1, 1, 1, 40, 0, 0, 1, 0};
        for (int what = 0; what <= 8; what++) {
            due.is("shelf(0, " + what + ") of 0.111..", x.shelf(0, what), due0[what]);
        }
        // What times B is B less 2: one figure stands ahead of those that come again.
        x.put(0, -5, 2);
        due.is("shelf: LEAD of 0.0111..", x.shelf(0, 6), 1);
        due.is("shelf: ROUND of 0.0111..", x.shelf(0, 7), 1);
        due.is("shelf: ENDS of 0.0111..", x.shelf(0, 5), 0);
        due.is("shelf: FIGURES behind of 0.0111..", x.shelf(0, 4), 40);
        due.is("shelf: the figure ahead of the round", x.figure(0, -1), 0);
        due.is("shelf: the last figure told", x.figure(0, -40), 1);
    }

    private static void shelfAtTheLastFigure() {
        RingBases x = new RingBases();
        x.base(6, -4);
        x.put(0, -794963, 563146);
        due.is("shelf: the rest behind the 40 is an earlier one, LEAD", x.shelf(0, 6), 39);
        due.is("shelf: the rest behind the 40 is an earlier one, ROUND", x.shelf(0, 7), 1);
        due.is("shelf: the rest behind the 40 is an earlier one, ENDS", x.shelf(0, 5), 0);
        x.put(0, 533569, 870081);
        due.is("shelf: neither is told, LEAD", x.shelf(0, 6), NONE);
        due.is("shelf: neither is told, ROUND", x.shelf(0, 7), NONE);
        due.is("shelf: neither is told, ENDS", x.shelf(0, 5), 0);
        due.is("shelf: neither is told, FIGURES behind", x.shelf(0, 4), 40);
        x.base(2, 2);
        x.put(0, 667802, -91576);
        due.is("shelf: it ends with the 40th, FIGURES behind", x.shelf(0, 4), 40);
        due.is("shelf: it ends with the 40th, ENDS", x.shelf(0, 5), 1);
        due.is("shelf: it ends with the 40th, the last", x.figure(0, -40), 2);
        x.put(0, -87683, 762028);
        due.is("shelf: it ends behind the 40th, FIGURES behind", x.shelf(0, 4), 40);
        due.is("shelf: it ends behind the 40th, ENDS", x.shelf(0, 5), 0);
    }

    private static void shelfRefused() {
        RingBases x = new RingBases();
        x.put(0, -1, 0);
        for (int shelf : NO_SHELVES) {
            due.is("shelf(" + shelf + ", 0)", x.shelf(shelf, 0), UNKNOWN);
            due.is("shelf(" + shelf + ", 9)", x.shelf(shelf, 9), UNKNOWN);
        }
        for (int what : new int[] {-1, 9, Integer.MAX_VALUE, Integer.MIN_VALUE}) {
            due.is("shelf(0, " + what + ")", x.shelf(0, what), OUTSIDE);
        }
    }

    /** The same m and n in other bases, and numbers that only m or n tells apart. */
    private static void shelfWrittenAnew() {
        RingBases x = new RingBases();
        x.put(0, 3, 0);
        due.is("3 in 1, 1 is 100.01", x.shelf(0, 3), 3);
        x.base(2, 1);
        due.is("3 in 2, 1 is 10.11", x.shelf(0, 3), 2);
        due.is("3 in 2, 1 ends with 1", x.figure(0, -2), 1);
        x.undo();
        due.is("3 in 1, 1 again", x.shelf(0, 3), 3);
        x.base(3, 3);
        due.is("3 in 3, 3 is 3", x.shelf(0, 3), 1);
        x.base(3, -1);
        due.is("3 in 3, -1 is 10.1", x.shelf(0, 3), 2);
        x.base(1, 1);
        x.put(1, 3, 1);
        due.is("3 in 1, 1 once more", x.shelf(0, 3), 3);
        due.is("3 and B in 1, 1", x.shelf(1, 3), 4);
        x.put(2, 1, 1);
        due.is("1 and B in 1, 1", x.shelf(2, 4), 0);
        due.is("3 and B in 1, 1, behind the point", x.shelf(1, 4), 2);
    }

    // Promise 9
    private static void figure() {
        RingBases x = new RingBases();
        x.put(0, 4, 0);
        String written = "101.01";
        for (int i = 0; i < written.length(); i++) {
            if (i != 3) {
                int place = i < 3 ? 2 - i : 3 - i;
                due.is("figure(0, " + place + ") of 4", x.figure(0, place), written.charAt(i) - '0');
            }
        }
        due.is("figure: left of all", x.figure(0, 3), 0);
        due.is("figure: the highest place", x.figure(0, 60), 0);
        due.is("figure: behind all", x.figure(0, -3), 0);
        due.is("figure: the lowest place", x.figure(0, -40), 0);
        x.base(5, -3);
        // 2 B and 7 is 3 B and 2 and the rest, which is 5 less B; that times B is 3.
        x.put(1, 7, 2);
        due.is("figure(1, 1)", x.figure(1, 1), 3);
        due.is("figure(1, 0)", x.figure(1, 0), 2);
        due.is("figure(1, -1)", x.figure(1, -1), 3);
        for (int shelf : NO_SHELVES) {
            due.is("figure(" + shelf + ", 61)", x.figure(shelf, 61), UNKNOWN);
        }
        x.put(2, -1, 0);
        for (int place : new int[] {61, -41, Integer.MAX_VALUE, Integer.MIN_VALUE}) {
            due.is("figure(2, " + place + ")", x.figure(2, place), OUTSIDE);
        }
        due.is("figure of a number below 0", x.figure(2, 0), NOT);
        due.is("figure far behind a number below 0", x.figure(2, -40), NOT);
    }

    // Promise 10
    private static void compare() {
        RingBases x = new RingBases();
        x.put(0, 832040, 0);
        x.put(1, 0, 514229);
        due.is("compare: less by a millionth", x.compare(0, 1), -1);
        due.is("compare: greater by a millionth", x.compare(1, 0), 1);
        due.is("compare: one with itself", x.compare(1, 1), 0);
        x.put(2, 832040, 0);
        due.is("compare: alike", x.compare(2, 0), 0);
        x.put(0, 999999, 999999);
        x.put(1, -999999, -999999);
        due.is("compare: the farthest", x.compare(0, 1), 1);
        due.is("compare: the farthest, turned", x.compare(1, 0), -1);
        x.base(9, 9);
        x.put(0, 10, 0);
        x.put(1, 0, 1);
        due.is("compare: 10 with 9.9", x.compare(0, 1), 1);
        for (int shelf : NO_SHELVES) {
            due.is("compare(" + shelf + ", 0)", x.compare(shelf, 0), UNKNOWN);
            due.is("compare(0, " + shelf + ")", x.compare(0, shelf), UNKNOWN);
        }
    }

    // Promise 11
    private static void beside() {
        RingBases x = new RingBases();
        x.put(0, 10, 0);
        due.is("beside: 10", x.beside(0), 10);
        x.put(0, -10, 0);
        due.is("beside: -10", x.beside(0), -10);
        x.put(0, 0, 10);
        due.is("beside: 10 times -0.618", x.beside(0), -7);
        x.put(0, 0, -10);
        due.is("beside: -10 times -0.618", x.beside(0), 6);
        x.base(5, -3);
        x.put(0, 0, 10);
        due.is("beside: 10 times 0.697", x.beside(0), 6);
        x.put(0, 1, -10);
        due.is("beside: 1 less 10 times 0.697", x.beside(0), -6);
        x.base(9, 9);
        x.put(0, 999999, -999999);
        due.is("beside: the greatest", x.beside(0), 1908325);
        for (int shelf : NO_SHELVES) {
            due.is("beside(" + shelf + ")", x.beside(shelf), UNKNOWN);
        }
    }

    // Promise 12
    private static void norm() {
        RingBases x = new RingBases();
        x.put(0, 3, 5);
        due.is("norm in 1, 1", x.norm(0), 9 + 15 - 25);
        x.base(7, -4);
        due.is("norm in 7, -4", x.norm(0), 9 + 7 * 15 + 4 * 25);
        x.base(6, 5);
        due.is("norm in 6, 5", x.norm(0), 9 + 6 * 15 - 5 * 25);
        x.base(9, -7);
        x.put(0, 999999, 999999);
        due.is("norm: the greatest", x.norm(0), 17L * 999999 * 999999);
        x.base(9, 9);
        x.put(0, 999999, -999999);
        due.is("norm: the least", x.norm(0), -17L * 999999 * 999999);
        for (int shelf : NO_SHELVES) {
            due.is("norm(" + shelf + ")", x.norm(shelf), UNKNOWN);
        }
    }
}
