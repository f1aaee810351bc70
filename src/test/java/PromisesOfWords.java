/** Promises 13 to 19: words. */
final class PromisesOfWords extends BoundaryPart {
    private static final String AT_THE_BOUND = "1000101000000000001001010101000";
    private static final String PAST_THE_BOUND = "1000101000000000001010000000000";

    PromisesOfWords(Boundaries to) {
        super(to);
    }

    @Override
    void run() {
        feed();
        clear();
        normal();
        next();
        one();
        read();
        write();
        writeNot();
        writeFull();
    }

    private void feed() {
        to.sentence("Promise 13", "A sign (48 .. 57, 46) comes behind THE WORD: how many it has.");
        RingBases x = new RingBases();
        for (int sign = 48; sign <= 57; sign++) {
            to.is("sign " + sign, x.feed(sign), sign - 47);
        }
        to.is("the point", x.feed(46), 11);
        for (int signs = 12; signs <= 60; signs++) {
            to.is("sign number " + signs, x.feed(48), signs);
        }
        to.is("49 behind the point", x.told(7), 49);

        to.sentence("Promise 13", "OUTSIDE (another one, a second point), FULL (60).");
        to.is("61", x.feed(48), FULL);
        to.is("61, the greatest figure", x.feed(57), FULL);
        to.is("61, a second point", x.feed(46), OUTSIDE);
        Look.feed(x, "1".repeat(60));
        to.is("61, the first point", x.feed(46), FULL);
        to.is("60 stay", x.told(4), 60);
        Look.feed(x, "1".repeat(59));
        for (int sign : new int[] {45, 47, 58, 0, 10, -1, 256 + 48, LEAST, GREATEST}) {
            to.is("sign " + sign, x.feed(sign), OUTSIDE);
        }
        to.is("59 stay", x.told(4), 59);
        to.is("the 60th, a point", x.feed(46), 60);
        Look.feed(x, ".");
        to.is("a second point at once", x.feed(46), OUTSIDE);
        to.is("one point stays", x.told(4), 1);
    }

    private void clear() {
        to.sentence("Promise 14", "THE WORD is empty: how many signs it had.");
        RingBases x = new RingBases();
        to.is("it was empty", x.clear(), 0);
        to.is("it was empty again", x.clear(), 0);
        Look.feed(x, ".");
        to.is("a point alone", x.clear(), 1);
        to.is("the point is gone", x.feed(46), 1);
        Look.feed(x, "9".repeat(59) + ".");
        to.is("60", x.clear(), 60);
        to.is("it is empty", x.told(4), 0);
        to.is("its worth is 0", x.told(8), 1000000);
        to.is("its shift is 0", x.told(7), 0);
        to.is("it is well", x.told(6), NONE);
        to.is("a sign can come again", x.feed(48), 1);
    }

    private void normal() {
        to.sentence("Promise 15", "FIGURE k of NORMAL, from the left; NONE: not so many.");
        RingBases x = new RingBases();
        to.is("the first of an empty word", x.normal(0), 0);
        to.is("the second of an empty word", x.normal(1), NONE);
        Look.feed(x, "2");
        to.isText("10.01", Look.normal(x), "1001");
        to.is("the last", x.normal(3), 1);
        to.is("one more", x.normal(4), NONE);
        to.is("the greatest k", x.normal(GREATEST), NONE);
        Look.feed(x, AT_THE_BOUND);
        to.isText("n at the bound", Look.normal(x), AT_THE_BOUND);

        to.sentence("Promise 15", "OUTSIDE: below 0; NOT, FULL as told.");
        for (int k : BELOW_ZERO) {
            to.is("normal(" + k + ")", x.normal(k), OUTSIDE);
        }
        Look.feed(x, PAST_THE_BOUND);
        to.is("n past the bound", x.normal(0), FULL);
        to.is("n past the bound, the greatest k", x.normal(GREATEST), FULL);
        to.is("n past the bound, k below 0", x.normal(-1), OUTSIDE);
        // NOT never comes: TermsOfWords says why.
    }

    private void next() {
        to.sentence("Promise 16", "FIGURE k of NEXT; NONE: there is none, not so many.");
        RingBases x = new RingBases();
        to.is("of an empty word", x.next(0), NONE);
        Look.feed(x, "0.01");
        to.is("the first", x.next(0), 0);
        to.is("the second", x.next(1), 1);
        to.is("the last: the point is not among them", x.next(2), 0);
        to.is("not so many", x.next(3), NONE);
        to.is("the greatest k", x.next(GREATEST), NONE);
        Look.feed(x, "1");
        to.is("there is none", x.next(0), NONE);
        Look.feed(x, "0".repeat(60));
        to.is("the last of 60", x.next(59), 1);
        to.is("behind the last of 60", x.next(60), NONE);
        to.is("the word stays", x.told(8), 1000000);

        to.sentence("Promise 16", "OUTSIDE: below 0.");
        for (int k : BELOW_ZERO) {
            to.is("next(" + k + ")", x.next(k), OUTSIDE);
        }
        x.clear();
        to.is("of an empty word", x.next(-1), OUTSIDE);
        Look.feed(x, "9");
        to.is("where there is none", x.next(-1), OUTSIDE);
    }

    private void one() {
        to.sentence("Promise 17", "FIGURE k of ONE.");
        for (int[] base : Bases.all()) {
            RingBases x = Bases.in(base);
            boolean above = base[1] > 0;
            String name = Bases.name(base);
            to.is("the first" + name, x.one(0), above ? base[0] : base[0] - 1);
            to.is("the second" + name, x.one(1), above ? base[1] - 1 : base[0] + base[1] - 1);
            to.is("the third" + name, x.one(2), above ? base[0] : base[0] + base[1] - 1);
            to.is("the last but one" + name, x.one(GREATEST - 1), above ? base[0] : base[0] + base[1] - 1);
            to.is("the last that can be asked of" + name, x.one(GREATEST),
                    above ? base[1] - 1 : base[0] + base[1] - 1);
        }

        to.sentence("Promise 17", "OUTSIDE: below 0.");
        for (int k : BELOW_ZERO) {
            to.is("b above 0, one(" + k + ")", Bases.in(9, 9).one(k), OUTSIDE);
            to.is("b below 0, one(" + k + ")", Bases.in(9, -7).one(k), OUTSIDE);
        }
    }

    private void read() {
        to.sentence("Promise 18", "WORTH of THE WORD onto a SHELF: SHIFT.");
        RingBases x = new RingBases();
        x.put(0, 7, 7);
        to.is("an empty word", x.read(0), 0);
        isShelf("an empty word", x, 0, 0, 0);
        Look.feed(x, ".90");
        to.is("a point at the beginning", x.read(3), 2);
        isShelf("a point at the beginning", x, 3, 0, 9);
        Look.feed(x, "90.");
        to.is("a point at the end", x.read(3), 0);
        Look.feed(x, "." + "0".repeat(58) + "1");
        to.is("59 behind the point", x.read(1), 59);
        isShelf("59 behind the point", x, 1, 1, 0);
        Look.feed(x, AT_THE_BOUND);
        to.is("n at the bound", x.read(2), 0);
        isShelf("n at the bound", x, 2, 618033, 999999);
        to.is("the word stays", x.told(4), AT_THE_BOUND.length());

        to.sentence("Promise 18", "UNKNOWN, FULL: m or n would be out of bounds.");
        for (int no : NO_SHELVES) {
            to.is("shelf " + no, x.read(no), UNKNOWN);
        }
        Look.feed(x, PAST_THE_BOUND);
        to.is("n past the bound", x.read(2), FULL);
        isShelf("the shelf stays", x, 2, 618033, 999999);
        RingBases y = Bases.in(8, 8);
        Look.feed(y, "1" + "0".repeat(59));
        to.is("past the bound long ago", y.read(0), FULL);

        to.sentence("Promise 18", "(It is a put().)");
        RingBases z = new RingBases();
        z.put(0, 3, 4);
        Look.feed(z, "12");
        z.read(0);
        to.is("it can be undone", z.undo(), 1);
        isShelf("undone", z, 0, 3, 4);
        to.is("the word is not undone", z.told(4), 2);
        for (int i = 0; i < 9; i++) {
            z.read(0);
        }
        to.is("8 at most are kept", z.told(11), 8);
        Look.feed(z, PAST_THE_BOUND);
        z.read(0);
        z.read(4);
        for (int left = 7; left >= 0; left--) {
            to.is("refused ones are not among the eight", z.undo(), left);
        }
        isShelf("the first of nine is not undone", z, 0, 2, 1);
    }

    private void write() {
        to.sentence("Promise 19", "THE WORD becomes what a SHELF has WRITTEN (a point, if FIGURES are behind it): how many "
                + "signs.");
        RingBases x = new RingBases();
        Look.feed(x, "12.34");
        to.is("0", x.write(0), 1);
        to.is("0: one sign", x.told(4), 1);
        to.is("0: its worth", x.told(8), 1000000);
        to.is("0: no point, one can come", x.feed(46), 2);
        x.put(0, 1, 1);
        to.is("100", x.write(0), 3);
        to.is("100: no point", x.told(7), 0);
        to.is("100: its worth", x.told(9), 1000001);
        to.is("100: a point can come", x.feed(46), 4);
        x.put(0, 2, -1);
        to.is("0.01", x.write(0), 4);
        to.is("0.01: shift", x.told(7), 2);
        to.is("0.01: a second point", x.feed(46), OUTSIDE);
        to.is("0.01: more can come", x.feed(49), 5);
        x.base(3, -1);
        x.put(0, 3, 0);
        to.is("10.1", x.write(0), 4);
        to.is("10.1: shift", x.told(7), 1);
        to.is("10.1: n of its worth", x.told(9), 1000003);
        to.is("10.1: a second point", x.feed(46), OUTSIDE);
        RingBases y = Bases.in(9, 9);
        y.put(0, 763, -40);
        to.is("40 behind the point", y.write(0), 44);
        to.is("40 behind the point: shift", y.told(7), 40);
        y.put(0, -725, 163);
        to.is("41 behind it would be", y.write(0), 44);
        to.is("what is written is no change that can be undone", y.told(11), 3);
        isShelf("the shelf stays", y, 0, -725, 163);
    }

    private void writeNot() {
        to.sentence("Promise 19", "UNKNOWN, NOT: it is below 0;");
        RingBases x = new RingBases();
        Look.feed(x, "12.3");
        for (int no : NO_SHELVES) {
            to.is("shelf " + no, x.write(no), UNKNOWN);
        }
        int[] tiny = Bases.tiny(new int[] {1, 1}, 999999);
        x.put(0, -tiny[0], -tiny[1]);
        to.is("a little below 0", x.write(0), NOT);
        to.is("the word stays: signs", x.told(4), 4);
        to.is("the word stays: shift", x.told(7), 1);
        to.is("the word stays: worth", x.told(8), 1000000 + 4);
        x.put(0, tiny[0], tiny[1]);
        to.holds("a little above 0", x.write(0) > 4);
    }

    /**
     * More than 60 never come. In the golden base a highest place h and f figures behind the point need a norm of B to
     * the (h + f - 1) at least (the last figure's power in the other root is greater than all that is taken from it),
     * and 1.25 times 10 to the 12 is the most that there is: so h and f together are 58 at most, and h + 1, f and the
     * point are 60. In every other base h is 17 at most, and 18, 40 and the point are 59.
     */
    private void writeFull() {
        to.sentence("Promise 19", "FULL: more than 60.");
        RingBases x = new RingBases();
        x.put(0, -250483, 893893);
        to.is("60 signs, the most of all", x.write(0), 60);
        to.is("60 signs: all are there", x.told(4), 60);
        to.is("60 signs: shift", x.told(7), 29);
        to.is("60 signs: one more", x.feed(48), FULL);
        RingBases y = Bases.in(2, 1);
        y.put(0, 999999, 999999);
        to.is("the most ahead of the point in another base", y.shelf(0, 3), 18);
    }
}
