/** Promises 13 to 19: words. */
public final class WordsTest {
    private static final int NONE = -1, UNKNOWN = -2000000001, OUTSIDE = -2000000002, NOT = -2000000003, FULL = -2000000004;
    private static final int[] NO_SHELVES = {-1, 4, 5, Integer.MAX_VALUE, Integer.MIN_VALUE};
    private static final Due due = new Due("WordsTest");

    public static void main(String[] args) {
        feed();
        clear();
        well();
        worth();
        normal();
        next();
        nextIsTheOrderOfNumbers();
        one();
        read();
        write();
        writeIsReadAgain();
        due.finish();
    }

    private static void feedAll(RingBases x, String word) {
        x.clear();
        for (int i = 0; i < word.length(); i++) {
            due.is("feed of " + word, x.feed(word.charAt(i)), i + 1);
        }
    }

    private static String normalOf(RingBases x) {
        StringBuilder row = new StringBuilder();
        for (int k = 0; k < 120 && x.normal(k) >= 0; k++) {
            row.append(x.normal(k));
        }
        return row.toString();
    }

    private static String nextOf(RingBases x) {
        StringBuilder row = new StringBuilder();
        for (int k = 0; k < 70 && x.next(k) >= 0; k++) {
            row.append(x.next(k));
        }
        return row.toString();
    }

    private static void isText(String what, String got, String want) {
        due.holds(what + ": " + got + ", due is " + want, got.equals(want));
    }

    // Promise 13
    private static void feed() {
        RingBases x = new RingBases();
        for (int sign : new int[] {45, 47, 58, 0, -1, 256 + 48, Integer.MAX_VALUE, Integer.MIN_VALUE}) {
            due.is("feed(" + sign + ")", x.feed(sign), OUTSIDE);
        }
        due.is("feed refused", x.told(4), 0);
        due.is("feed: a point at the beginning", x.feed('.'), 1);
        due.is("feed: a second point at once", x.feed('.'), OUTSIDE);
        for (int sign = 48; sign <= 57; sign++) {
            due.is("feed(" + sign + ")", x.feed(sign), sign - 46);
        }
        due.is("feed: a second point later", x.feed('.'), OUTSIDE);
        feedAll(x, "1".repeat(60));
        due.is("feed: figure 61", x.feed('0'), FULL);
        due.is("feed: a point as sign 61", x.feed('.'), FULL);
        due.is("feed: no sign at all, and full", x.feed(47), OUTSIDE);
        due.is("feed: full", x.told(4), 60);
        feedAll(x, "1".repeat(59) + ".");
        due.is("feed: SHIFT with a point at the end", x.told(7), 0);
        due.is("feed: a second point, and full", x.feed('.'), OUTSIDE);
        due.is("feed: figure behind 60 signs", x.feed('1'), FULL);
        due.is("feed: nothing to undo", x.told(11), 0);
    }

    // Promise 14
    private static void clear() {
        RingBases x = new RingBases();
        due.is("clear: an empty word", x.clear(), 0);
        feedAll(x, "12.3");
        due.is("clear: the point counts", x.clear(), 4);
        due.is("clear: empty", x.told(4), 0);
        due.is("clear: SHIFT", x.told(7), 0);
        due.is("clear: worth", x.told(8), 1000000);
        due.is("clear: a point can come again", x.feed('.'), 1);
        due.is("clear: 1", x.clear(), 1);
    }

    private static void isBadly(RingBases x, String word, int sign) {
        feedAll(x, word);
        due.is("WELL of " + word, x.told(5), sign == NONE ? 1 : 0);
        due.is("BADLY of " + word, x.told(6), sign);
    }

    // Promise 7, of words
    private static void well() {
        RingBases x = new RingBases();
        isBadly(x, "", NONE);
        isBadly(x, ".", NONE);
        isBadly(x, "0", NONE);
        isBadly(x, "1010100", NONE);
        isBadly(x, "10.11", 0);
        isBadly(x, "100.11", 4);
        isBadly(x, "1001.1", 3);
        isBadly(x, "100.011", 5);
        isBadly(x, "0.2", 2);
        isBadly(x, ".2", 1);
        isBadly(x, "2.", 0);
        isBadly(x, "00102", 2);
        x.base(3, 2);
        // ONE is 3, 1, 3, 1 ..
        isBadly(x, "313131", NONE);
        isBadly(x, "313132", 0);
        isBadly(x, "0.23132", 3);
        isBadly(x, "3132", 0);
        isBadly(x, "3122130", NONE);
        isBadly(x, "312213.2", 5);
        isBadly(x, "0400", 1);
        x.base(5, -2);
        // ONE is 4, 2, 2, 2 ..
        isBadly(x, "422222", NONE);
        isBadly(x, "42222.3", 0);
        isBadly(x, "421422", NONE);
        isBadly(x, "421.43", 4);
        isBadly(x, "3333333", NONE);
        isBadly(x, "5", 0);
        isBadly(x, "42" + "2".repeat(57) + "3", 0);
        isBadly(x, "42" + "2".repeat(58), NONE);
        isBadly(x, "1" + "0".repeat(57) + "43", 58);
    }

    // Promise 7, of words
    private static void worth() {
        RingBases x = new RingBases();
        x.base(4, -2);
        feedAll(x, "3.12");
        // 3 B and 1, times B, and 2: 3 (4 B less 2) and B and 2
        due.is("worth of 312: m", x.told(8), 1000000 - 4);
        due.is("worth of 312: n", x.told(9), 1000000 + 13);
        feedAll(x, "900000");
        // 9, 9 B, -18 and 36 B, -72 and 126 B, -252 and 432 B, -864 and 1476 B
        due.is("worth of 900000: m", x.told(8), 1000000 - 864);
        due.is("worth of 900000: n", x.told(9), 1000000 + 1476);
        feedAll(x, "0" + "0".repeat(58) + "7");
        due.is("worth: zeros ahead", x.told(8), 1000007);
        feedAll(x, "9".repeat(60));
        due.is("worth: past the bounds long ago", x.told(8), FULL);
        due.is("worth: past the bounds long ago", x.told(9), FULL);
        x.base(9, 9);
        feedAll(x, "9".repeat(7));
        due.is("worth of 9999999: m", x.told(8), 1795429);
        due.is("worth of 9999999: n", x.told(9), 1875700);
        x.feed('0');
        due.is("worth past the bounds", x.told(8), FULL);
    }

    // Promise 15
    private static void normal() {
        RingBases x = new RingBases();
        isText("normal of nothing", normalOf(x), "0");
        feedAll(x, "11");
        isText("normal of 11", normalOf(x), "100");
        feedAll(x, "1.1");
        isText("normal: the point does not matter", normalOf(x), "100");
        feedAll(x, "2");
        isText("normal of 2: behind the point, too", normalOf(x), "1001");
        due.is("told(10) of 2", x.told(10), 4);
        feedAll(x, "4");
        isText("normal of 4", normalOf(x), "10101");
        feedAll(x, "000");
        isText("normal of zeros", normalOf(x), "0");
        due.is("normal(-1)", x.normal(-1), OUTSIDE);
        due.is("normal(least)", x.normal(Integer.MIN_VALUE), OUTSIDE);
        due.is("normal(1)", x.normal(1), NONE);
        due.is("normal(greatest)", x.normal(Integer.MAX_VALUE), NONE);
        x.base(3, -1);
        feedAll(x, "212");
        // 212 is 2 B B and B and 2, that is 7 B, and B B B is 8 B less 3, so 3 less B is left: that times B is 1.
        due.is("worth of 212: m", x.told(8), 1000000);
        due.is("worth of 212: n", x.told(9), 1000007);
        isText("normal of 212", normalOf(x), "10001");
        x.base(1, 1);
        feedAll(x, "1".repeat(60));
        due.is("normal: FULL", x.normal(0), FULL);
        due.is("normal: FULL, far", x.normal(1000), FULL);
        due.is("normal: OUTSIDE ahead of FULL", x.normal(-1), OUTSIDE);
        due.is("told(10): FULL", x.told(10), FULL);
        x.base(9, 9);
        x.put(0, 999999, 999999);
        feedAll(x, "9999999");
        due.is("normal: 8 figures, and it ends there", x.told(10), 8);
    }

    private static void isNext(RingBases x, String word, String next) {
        feedAll(x, word);
        isText("next of " + word, nextOf(x), next);
    }

    // Promise 16
    private static void next() {
        RingBases x = new RingBases();
        isNext(x, "", "");
        isNext(x, ".", "");
        isNext(x, "0", "1");
        isNext(x, "1", "");
        isNext(x, "9", "");
        isNext(x, "00", "01");
        isNext(x, "01", "10");
        isNext(x, "0.1", "10");
        isNext(x, "10", "");
        isNext(x, "0101", "1000");
        isNext(x, "1001", "1010");
        isNext(x, "0110", "1000");
        isNext(x, "0900", "1000");
        isNext(x, "0099.", "0100");
        isNext(x, "1010101", "");
        isNext(x, "00" + "01".repeat(29), "001" + "0".repeat(57));
        isNext(x, "0." + "01".repeat(29), "01" + "0".repeat(57));
        isNext(x, "0" + "10".repeat(29) + ".", "1" + "0".repeat(58));
        x.base(3, 2);
        isNext(x, "3130", "3131");
        isNext(x, "3131", "");
        isNext(x, "2313", "3000");
        isNext(x, "2312", "2313");
        isNext(x, "1319", "2000");
        x.base(5, -2);
        isNext(x, "4222", "");
        isNext(x, "4219", "4220");
        isNext(x, "3422", "4000");
        isNext(x, "3999", "4000");
        isNext(x, "3332", "3333");
        isNext(x, "3333", "3334");
        isNext(x, "3334", "3340");
        due.is("next(-1)", x.next(-1), OUTSIDE);
        due.is("next(least)", x.next(Integer.MIN_VALUE), OUTSIDE);
        due.is("next(3)", x.next(3), 0);
        due.is("next(4)", x.next(4), NONE);
        due.is("next(greatest)", x.next(Integer.MAX_VALUE), NONE);
        due.is("next: the word stays, m of its worth", x.told(8), 1000000 - 32);
        due.is("next: the word stays, n of its worth", x.told(9), 1000000 + 87);
        isText("next: asked again", nextOf(x), "3340");
        x.clear();
        due.is("next(-1) of nothing", x.next(-1), OUTSIDE);
    }

    /** Against all rows of four figures: the next one is the first greater one that told(5) calls well. */
    private static void nextIsTheOrderOfNumbers() {
        int[][] bases = {{1, 1}, {2, 1}, {3, 2}, {4, -2}, {5, -1}, {9, 9}, {9, -7}};
        for (int[] base : bases) {
            RingBases x = new RingBases();
            x.base(base[0], base[1]);
            String greater = "";
            int greaterWorthShelf = NONE;
            for (int number = 9999; number >= 0; number--) {
                String word = String.format("%04d", number);
                feedFast(x, word);
                if (number % 7 == 0 || x.told(5) == 1) {
                    isText("next of " + word + " in " + base[0] + ", " + base[1], nextOf(x), greater);
                }
                if (x.told(5) == 1) {
                    x.read(0);
                    if (greaterWorthShelf != NONE) {
                        due.is("worth of " + word + " in order", x.compare(0, 1), -1);
                    }
                    x.read(1);
                    greaterWorthShelf = 1;
                    greater = word;
                }
            }
        }
    }

    private static void feedFast(RingBases x, String word) {
        x.clear();
        for (int i = 0; i < word.length(); i++) {
            x.feed(word.charAt(i));
        }
    }

    // Promise 17
    private static void one() {
        RingBases x = new RingBases();
        for (int a = 1; a <= 9; a++) {
            for (int b = 2 - a; b <= a; b++) {
                if (x.base(a, b) == OUTSIDE) {
                    continue;
                }
                String of = " in " + a + ", " + b;
                for (int k = 0; k < 9; k++) {
                    int want = b > 0 ? (k % 2 == 0 ? a : b - 1) : (k == 0 ? a - 1 : a + b - 1);
                    due.is("one(" + k + ")" + of, x.one(k), want);
                }
                due.is("one(greatest)" + of, x.one(Integer.MAX_VALUE), b > 0 ? b - 1 : a + b - 1);
                due.is("one(-1)" + of, x.one(-1), OUTSIDE);
                due.is("one(least)" + of, x.one(Integer.MIN_VALUE), OUTSIDE);
            }
        }
    }

    // Promise 18
    private static void read() {
        RingBases x = new RingBases();
        x.base(4, -2);
        x.put(2, 5, 6);
        feedAll(x, "3.12");
        due.is("read: SHIFT", x.read(2), 2);
        due.is("read: m", x.shelf(2, 0), -4);
        due.is("read: n", x.shelf(2, 1), 13);
        due.is("read: the word stays", x.told(4), 4);
        due.is("read: can be undone", x.undo(), 2);
        due.is("read: undone", x.shelf(2, 0), 5);
        feedAll(x, "312");
        due.is("read: without a point", x.read(2), 0);
        x.clear();
        due.is("read: nothing", x.read(2), 0);
        due.is("read: nothing is 0", x.shelf(2, 2), 0);
        feedAll(x, "9".repeat(60));
        int undoable = x.told(11);
        due.is("read: FULL", x.read(2), FULL);
        for (int shelf : NO_SHELVES) {
            due.is("read(" + shelf + ")", x.read(shelf), UNKNOWN);
        }
        due.is("read refused: undoable", x.told(11), undoable);
        due.is("read refused: the shelf stays", x.shelf(2, 0), 0);
    }

    // Promise 19
    private static void write() {
        RingBases x = new RingBases();
        feedAll(x, "123");
        due.is("write: 0", x.write(0), 1);
        due.is("write: 0 has no point", x.told(7), 0);
        due.is("write: 0 can have one", x.feed('.'), 2);
        x.put(0, 4, 0);
        due.is("write: 4", x.write(0), 6);
        due.is("write: 4, SHIFT", x.told(7), 2);
        due.is("write: 4 has a point", x.feed('.'), OUTSIDE);
        due.is("write: 4, worth m of 10101", x.told(8), 1000004);
        due.is("write: 4, worth n of 10101", x.told(9), 1000004);
        x.put(0, 1, 1);
        due.is("write: B times B", x.write(0), 3);
        due.is("write: B times B, SHIFT", x.told(7), 0);
        due.is("write: more can be fed behind", x.feed('1'), 4);
        due.is("write: cannot be undone", x.told(11), 2);
        x.put(1, -1, 0);
        due.is("write: below 0", x.write(1), NOT);
        for (int shelf : NO_SHELVES) {
            due.is("write(" + shelf + ")", x.write(shelf), UNKNOWN);
        }
        due.is("write refused: the word stays", x.told(4), 4);
        // No number within the bounds has more signs than this one.
        x.put(0, -250483, 893893);
        due.is("write: 60 signs", x.write(0), 60);
        due.is("write: 60 signs, all taken", x.told(4), 60);
        due.is("write: 60 signs, SHIFT", x.told(7), 29);
        due.is("write: 60 signs are well", x.told(5), 1);
        due.is("write: no sign more", x.feed('0'), FULL);
    }

    /** What is written is well, and its next word is greater: over many numbers of many bases. */
    private static void writeIsReadAgain() {
        for (int a = 1; a <= 9; a++) {
            for (int b = 2 - a; b <= a; b++) {
                RingBases x = new RingBases();
                if (x.base(a, b) == OUTSIDE) {
                    continue;
                }
                for (int seed = 1; seed <= 40; seed++) {
                    x.drift(0, seed * 24999);
                    int signs = x.write(0);
                    due.holds("write: signs", signs >= 1 && signs <= 60);
                    due.is("write: well in " + a + ", " + b, x.told(5), 1);
                    due.is("write: SHIFT", x.told(7), x.shelf(0, 4));
                    writtenAnew(x);
                }
            }
        }
    }

    /** A word without figures behind its point comes back as it was; with them, times B as often. */
    private static void writtenAnew(RingBases x) {
        if (x.shelf(0, 5) != 1 || x.read(1) == FULL) {
            return;
        }
        int times = x.told(7);
        for (int i = 0; i < times; i++) {
            if (x.deed(0, 3, 0, 0) == FULL) {
                return;
            }
        }
        due.is("write, read: the same number", x.compare(0, 1), 0);
    }
}
