/** "Terms": 2 A WORD, and NEXT of 3. */
final class TermsOfWords extends BoundaryPart {
    private static final String TERMS = "Terms";

    TermsOfWords(Boundaries to) {
        super(to);
    }

    @Override
    void run() {
        word();
        worth();
        shift();
        worthIsFull();
        one();
        well();
        badly();
        normal();
        normalNot();
        next();
    }

    /** The first figures of ONE as the document writes them out. */
    private static String one(int[] base, int howMany) {
        StringBuilder row = new StringBuilder();
        for (int k = 0; k < howMany; k++) {
            if (base[1] > 0) {
                row.append(k % 2 == 0 ? base[0] : base[1] - 1);
            } else {
                row.append(k == 0 ? base[0] - 1 : base[0] + base[1] - 1);
            }
        }
        return row.toString();
    }

    private void word() {
        to.sentence(TERMS, "2 A WORD by hand: a text of figures 48 .. 57, perhaps with one point 46 among them (at its "
                + "beginning, its end, too), 60 signs at most.");
        RingBases x = new RingBases();
        to.is("empty at first", x.told(4), 0);
        to.is("47 is no sign", x.feed(47), OUTSIDE);
        to.is("58 is no sign", x.feed(58), OUTSIDE);
        to.is("45 is no sign", x.feed(45), OUTSIDE);
        to.is("the least figure", x.feed(48), 1);
        to.is("the greatest figure", x.feed(57), 2);
        to.is("a point at the end", x.feed(46), 3);
        to.is("a second point", x.feed(46), OUTSIDE);
        to.is("the worth of 09.", x.told(8), 1000009);
        to.is("a point at the beginning", Look.feed(x, ".1"), 2);
        to.is("a point alone", Look.feed(x, "."), 1);
        to.is("a second point at once", x.feed(46), OUTSIDE);
        to.is("60 figures", Look.feed(x, "0".repeat(60)), 60);
        to.is("sign 61", x.feed(48), FULL);
        to.is("a point is a sign, too", x.feed(46), FULL);
        to.is("60 signs, the last a point", Look.feed(x, "0".repeat(59) + "."), 60);
        to.is("sign 61 behind the point", x.feed(48), FULL);
        to.is("60 signs, the first a point", Look.feed(x, "." + "0".repeat(59)), 60);
        to.is("sign 61, a point ahead", x.feed(48), FULL);
    }

    private void isWorth(RingBases x, String word, int m, int n) {
        Look.feed(x, word);
        to.is("m of the worth of " + word, x.told(8), m + 1000000);
        to.is("n of the worth of " + word, x.told(9), n + 1000000);
    }

    private void worth() {
        to.sentence(TERMS, "WORTH: the NUMBER that its FIGURES make, FIGURE by FIGURE from the left: what it is by then "
                + "times B, and the FIGURE; as if there were no point");
        RingBases x = new RingBases();
        isWorth(x, "", 0, 0);
        isWorth(x, ".", 0, 0);
        isWorth(x, "9", 9, 0);
        isWorth(x, "90", 0, 9);
        isWorth(x, "1.2", 2, 1);
        isWorth(x, ".12", 2, 1);
        isWorth(x, "12.", 2, 1);
        isWorth(x, "0".repeat(58) + "12", 2, 1);
        x.base(3, -1);
        isWorth(x, "100", -1, 3);
        isWorth(x, "0.100", -1, 3);
    }

    private void shift() {
        to.sentence(TERMS, "(SHIFT: how many FIGURES stand behind the point; 0 without).");
        RingBases x = new RingBases();
        String[] words = {"", "123", ".", "123.", "12.3", ".123", "." + "1".repeat(59), "1".repeat(59) + "."};
        int[] shifts = {0, 0, 0, 0, 1, 3, 59, 0};
        for (int i = 0; i < words.length; i++) {
            Look.feed(x, words[i]);
            to.is("shift of " + words[i], x.told(7), shifts[i]);
        }
    }

    private void isFull(RingBases x, String word) {
        Look.feed(x, word);
        to.is("m of the worth of " + word, x.told(8), FULL);
        to.is("n of the worth of " + word, x.told(9), FULL);
        to.is("figures of what is normal of " + word, x.told(10), FULL);
        to.is("normal of " + word, x.normal(0), FULL);
    }

    /**
     * n is always the first out of bounds, m never alone: m and n times the lesser root is a sum of figures times its
     * powers, some 100 at most, so m is less far from 0 than 91 hundredths of n and 100.
     */
    private void worthIsFull() {
        to.sentence(TERMS, "As soon as m or n is out of bounds by that, WORTH and NORMAL are FULL.");
        isWorth(Bases.in(1, 1), "1000101000000000001001010101000", 618033, 999999);
        isFull(Bases.in(1, 1), "1000101000000000001010000000000");
        isWorth(Bases.in(9, 9), "11517800", 908325, 999999);
        isFull(Bases.in(9, 9), "11517810");
        isWorth(Bases.in(9, -7), "30474160", -859929, 999999);
        isFull(Bases.in(9, -7), "30474170");
        isWorth(Bases.in(3, -1), "1011000001021110", -381965, 999999);
        isFull(Bases.in(3, -1), "1011000001100000");
        // What is past the bounds by then stays so, though reckoned on by 64 bits it would be 0 at the end.
        isFull(Bases.in(8, 8), "1" + "0".repeat(59));
        for (int[] base : Bases.all()) {
            isFull(Bases.in(base), "9".repeat(60));
            isFull(Bases.in(base), "1" + "0".repeat(59));
            isWorth(Bases.in(base), "0".repeat(60), 0, 0);
        }
    }

    private void one() {
        to.sentence(TERMS, "ONE: the row of FIGURES that comes of 1, if again and again what is left (1 at first) times B, "
                + "its whole part is the next, which it becomes less by; where it ENDS, the last FIGURE is taken 1 less "
                + "and all comes from its beginning again and again (for b above 0: a, b less 1, again; for b below 0: "
                + "a less 1, then a and b less 1 again and again).");
        for (int[] base : Bases.all()) {
            RingBases x = Bases.in(base);
            StringBuilder row = new StringBuilder();
            for (int k = 0; k < 70; k++) {
                row.append(x.one(k));
            }
            to.isText("ONE" + Bases.name(base), row.toString(), one(base, 70));
        }
    }

    private void isWell(RingBases x, String word) {
        Look.feed(x, word);
        to.is(word + " is well in " + x.told(0) + ", " + (x.told(1) - 10), x.told(5), 1);
        to.is("badly of " + word + " in " + x.told(0) + ", " + (x.told(1) - 10), x.told(6), NONE);
    }

    private void isBadly(RingBases x, String word, int sign) {
        Look.feed(x, word);
        to.is(word + " is well in " + x.told(0) + ", " + (x.told(1) - 10), x.told(5), 0);
        to.is("badly of " + word + " in " + x.told(0) + ", " + (x.told(1) - 10), x.told(6), sign);
    }

    private void well() {
        to.sentence(TERMS, "WELL (the point does not matter): a WORD each end of which (from each FIGURE on, zeros behind "
                + "it) is, FIGURE by FIGURE, less than ONE.");
        isWell(new RingBases(), "");
        isWell(new RingBases(), ".");
        for (int[] base : Bases.all()) {
            isWell(Bases.in(base), "0".repeat(60));
            for (int length : new int[] {1, 2, 3, 4, 59, 60}) {
                String most = one(base, length);
                isWell(Bases.in(base), most);
                int last = most.charAt(length - 1) - '0';
                if (last < 9) {
                    isBadly(Bases.in(base), most.substring(0, length - 1) + (last + 1), 0);
                }
                if (length < 60) {
                    isWell(Bases.in(base), "." + most);
                    isWell(Bases.in(base), most + ".");
                    isWell(Bases.in(base), most.charAt(0) + "." + most.substring(1));
                    isWell(Bases.in(base), "0" + most);
                }
            }
        }
    }

    private void badly() {
        to.sentence(TERMS, "BADLY: the first FIGURE from which it is not (its number among all signs, the point counted); "
                + "NONE.");
        RingBases x = new RingBases();
        isBadly(x, "2", 0);
        isBadly(x, "2.", 0);
        isBadly(x, ".2", 1);
        isBadly(x, "0.2", 2);
        isBadly(x, "02.", 1);
        isBadly(x, "011", 1);
        isBadly(x, "01.1", 1);
        isBadly(x, "0.11", 2);
        isBadly(x, "1011", 0);
        isBadly(x, "1001122", 3);
        isWell(x, "1001");
        isBadly(new RingBases(), "0".repeat(59) + "2", 59);
        isBadly(new RingBases(), "." + "0".repeat(58) + "2", 59);
        isBadly(new RingBases(), "0".repeat(58) + "2.", 58);
    }

    /**
     * 40 behind the point never come of a word: beside its worth (in the other root) stands no more than 100, so of
     * the rest behind the point n is 10 at most, and it comes nearer to 0 with each second figure at least.
     */
    private void normal() {
        to.sentence(TERMS, "NORMAL: what WORTH of THE WORD has WRITTEN: FIGURES ahead of the point, then those behind it "
                + "(40 at most), from the left.");
        RingBases x = new RingBases();
        to.isText("of an empty word", Look.normal(x), "0");
        Look.feed(x, "3");
        to.isText("of 3, that is 100.01", Look.normal(x), "10001");
        Look.feed(x, ".11");
        to.isText("of .11, the point left out", Look.normal(x), "100");
        RingBases y = Bases.in(3, 3);
        Look.feed(y, "900090909");
        to.is("ten ahead of the point, eight behind it", y.told(10), 18);
        to.isText("ten ahead of the point, eight behind it", Look.normal(y), "211231101230211203");
        y.read(0);
        to.isText("what the shelf has written", Look.written(y, 0).replace(".", ""), Look.normal(y));
    }

    private void normalNot() {
        to.withoutCase(TERMS, "(NOT: WORTH is below 0.)",
                "figures are 0 or more and the base is above 0, so no word is worth less than 0");
    }

    private void isNext(int[] base, String word, String next) {
        RingBases x = Bases.in(base);
        Look.feed(x, word);
        to.isText("next of " + word + Bases.name(base), Look.next(x), next);
    }

    private void next() {
        to.sentence(TERMS, "NEXT of a WORD (its signs but the point, as many): the least greater row of as many FIGURES that "
                + "is WELL; NONE: there is none.");
        int[] golden = {1, 1};
        isNext(golden, "", "");
        isNext(golden, ".", "");
        isNext(golden, "0110", "1000");
        isNext(golden, "01.10", "1000");
        isNext(golden, "10.01", "1010");
        for (int[] base : Bases.all()) {
            int top = Bases.top(base);
            isNext(base, "0", "1");
            isNext(base, "" + (top - 1), "" + top);
            isNext(base, "" + top, "");
            isNext(base, "9", "");
            isNext(base, "0".repeat(60), "0".repeat(59) + "1");
            isNext(base, "09" + "9".repeat(58), "1" + "0".repeat(59));
            isNext(base, "9".repeat(60), "");
            for (int length : new int[] {1, 2, 3, 58, 59}) {
                String most = one(base, length);
                isNext(base, most, "");
                isNext(base, "." + most, "");
                isNext(base, "0" + most, "1" + "0".repeat(length));
                int last = most.charAt(length - 1) - '0';
                if (last > 0) {
                    isNext(base, most.substring(0, length - 1) + (last - 1), most);
                }
            }
            isNext(base, one(base, 60), "");
        }
    }
}
