import java.util.ArrayList;
import java.util.List;

/** "Terms": 1 THE BASE, and of 3 what tells of numbers, lots, undoing and images. */
final class TermsOfNumbers extends BoundaryPart {
    private static final String TERMS = "Terms";

    TermsOfNumbers(Boundaries to) {
        super(to);
    }

    @Override
    void run() {
        base();
        top();
        numbers();
        timesBase();
        shelves();
        greater();
        highestPlace();
        greatestTimes();
        point();
        behindThePoint();
        ends();
        goesRound();
        roundIsTold();
        beside();
        norm();
        byLots();
        undone();
        images();
    }

    private void base() {
        to.sentence(TERMS, "1 THE BASE B: the greater root of x x = a x + b, a 1 .. 9, b from 1 to a, or from -1 down to "
                + "2 less a (1, 1 at first).");
        RingBases first = new RingBases();
        to.is("a at first", first.told(0), 1);
        to.is("b at first", first.told(1), 11);
        for (int a = 1; a <= 9; a++) {
            RingBases x = new RingBases();
            to.is("b is 1, a is " + a, x.base(a, 1), a);
            to.is("b is a, a is " + a, x.base(a, a), a);
            to.is("b is 0, a is " + a, x.base(a, 0), OUTSIDE);
            to.is("b is a and 1, a is " + a, x.base(a, a + 1), OUTSIDE);
            // Of 1 and 2 the way down from -1 to 2 less a has no step.
            to.is("b is -1, a is " + a, x.base(a, -1), a < 3 ? OUTSIDE : a - 1);
            to.is("b is 2 less a, a is " + a, x.base(a, 2 - a), a == 1 ? 1 : a == 2 ? OUTSIDE : a - 1);
            to.is("b is 1 less a, a is " + a, x.base(a, 1 - a), OUTSIDE);
            to.is("the least b, a is " + a, x.base(a, LEAST), OUTSIDE);
            to.is("the greatest b, a is " + a, x.base(a, GREATEST), OUTSIDE);
        }
        for (int a : new int[] {0, 10, -1, -3, LEAST, GREATEST}) {
            for (int b = -12; b <= 12; b++) {
                to.is("a is " + a + ", b is " + b, new RingBases().base(a, b), OUTSIDE);
            }
        }
        for (int[] base : Bases.all()) {
            RingBases x = Bases.in(base);
            x.put(0, 0, 1);
            to.is("B times B" + Bases.name(base), x.deed(1, 2, 0, 0), 1);
            isShelf("B times B is a B and b" + Bases.name(base), x, 1, base[1], base[0]);
            to.is("the greater root" + Bases.name(base), x.shelf(0, 8), Bases.worth(base).intValue());
        }
    }

    private void top() {
        to.sentence(TERMS, "TOP: the greatest figure: a, if b is above 0, else a less 1.");
        for (int[] base : Bases.all()) {
            RingBases x = Bases.in(base);
            int top = base[1] > 0 ? base[0] : base[0] - 1;
            String name = Bases.name(base);
            to.is("TOP" + name, x.told(2), top);
            x.put(0, top, 0);
            to.is("TOP is one figure" + name, x.shelf(0, 3), 1);
            to.is("TOP has nothing left" + name, x.shelf(0, 4), 0);
            to.is("the figure of TOP" + name, x.figure(0, 0), top);
            x.put(0, top + 1, 0);
            to.is("TOP and 1 is no figure" + name, x.shelf(0, 3), 2);
        }
    }

    private void numbers() {
        to.sentence(TERMS, "NUMBERS: m and n times B, m, n -999999 .. 999999 each.");
        RingBases x = new RingBases();
        for (int m : new int[] {-999999, 999999}) {
            for (int n : new int[] {-999999, 999999}) {
                to.is("at the bounds", x.put(0, m, n), n > 0 ? 1 : -1);
                isShelf("at the bounds", x, 0, m, n);
            }
        }
        for (int far : new int[] {-1000000, 1000000, LEAST, GREATEST}) {
            to.is("m out of bounds: " + far, x.put(0, far, 0), OUTSIDE);
            to.is("n out of bounds: " + far, x.put(0, 0, far), OUTSIDE);
        }
    }

    private void timesBase() {
        to.sentence(TERMS, "B times it: n b and (m and n a) times B.");
        RingBases x = Bases.in(9, 9);
        x.put(0, 0, 111111);
        to.is("to the greatest m and n", x.deed(1, 3, 0, 0), 1);
        isShelf("to the greatest m and n", x, 1, 999999, 999999);
        x.put(0, 0, -111111);
        to.is("to the least m and n", x.deed(1, 3, 0, 0), -1);
        isShelf("to the least m and n", x, 1, -999999, -999999);
        x.base(9, -7);
        x.put(0, -999999, 142857);
        to.is("b below 0, to the least m", x.deed(1, 3, 0, 0), 1);
        isShelf("b below 0, to the least m", x, 1, -999999, 285714);
        to.is("nothing times B", x.deed(1, 3, 2, 2), 0);
        isShelf("nothing times B", x, 1, 0, 0);
    }

    private void shelves() {
        to.sentence(TERMS, "SHELVES 0 .. 3 have a NUMBER each (0 at first).");
        RingBases x = new RingBases();
        for (int shelf = 0; shelf < 4; shelf++) {
            isShelf("at first", x, shelf, 0, 0);
        }
        for (int shelf = 0; shelf < 4; shelf++) {
            x.put(shelf, 10 + shelf, 20 + shelf);
        }
        for (int shelf = 0; shelf < 4; shelf++) {
            isShelf("each its own", x, shelf, 10 + shelf, 20 + shelf);
        }
        for (int no : NO_SHELVES) {
            to.is("no shelf " + no, x.shelf(no, 0), UNKNOWN);
        }
    }

    private void greater() {
        to.sentence(TERMS, "GREATER by the true worth of B.");
        for (int[] base : Bases.all()) {
            RingBases x = Bases.in(base);
            for (int[] near : Bases.nearest(base, 999999)) {
                int side = Bases.side(base, near);
                x.put(0, near[0], 0);
                x.put(1, 0, near[1]);
                String name = near[0] + " and " + near[1] + " B" + Bases.name(base);
                to.is(name, x.compare(0, 1), side);
                to.is(name + ", turned", x.compare(1, 0), -side);
            }
            // Less one another, these are nearly twice the bounds.
            for (int[] near : Bases.nearest(base, 1999998)) {
                x.put(0, near[0] / 2, -(near[1] / 2));
                x.put(1, near[0] / 2 - near[0], near[1] - near[1] / 2);
                to.is("half of " + near[0] + " less " + near[1] + " B on each side" + Bases.name(base),
                        x.compare(0, 1), Bases.side(base, near));
            }
        }
    }

    private void highestPlace() {
        to.sentence(TERMS, "WRITTEN, a NUMBER of 0 or more: the least h (0 at least) by which it is less than B to the "
                + "(h and 1);");
        RingBases zero = new RingBases();
        to.is("0 has h 0", zero.shelf(0, 3), 1);
        to.is("0 is above no number below 0", zero.put(0, 0, 0), 0);
        for (int[] base : Bases.all()) {
            RingBases x = Bases.in(base);
            int[] tiny = Bases.tiny(base, 300000);
            long m = 1;
            long n = 0;
            for (int h = 0; Math.abs(m) <= 600000 && n <= 600000; h++) {
                String name = "B to the " + h + Bases.name(base);
                x.put(0, (int) m, (int) n);
                to.is(name + " itself", x.shelf(0, 3), h + 1);
                to.is(name + " itself, its figure", x.figure(0, h), 1);
                x.put(0, (int) m - tiny[0], (int) n - tiny[1]);
                to.is(name + ", nearly", x.shelf(0, 3), Math.max(h, 1));
                long raised = m + n * base[0];
                m = n * base[1];
                n = raised;
            }
        }
        zero.put(0, 999999, 999999);
        to.is("the highest h of all is 30", zero.shelf(0, 3), 31);
        to.is("its figure", zero.figure(0, 30), 1);
    }

    private void greatestTimes() {
        to.sentence(TERMS, "FIGURES: from place h down to 0 the greatest times of B to the place that fits into what is "
                + "left, by which that becomes less;");
        for (int[] base : Bases.all()) {
            int[] tiny = Bases.tiny(base, 300000);
            int[][] powers = {{1, 0}, {0, 1}, {base[1], base[0]}};
            for (int figure = 1; figure <= Bases.top(base); figure++) {
                for (int place = 0; place < powers.length; place++) {
                    int m = figure * powers[place][0];
                    int n = figure * powers[place][1];
                    String name = figure + " at place " + place + Bases.name(base);
                    RingBases x = Bases.in(base);
                    x.put(0, m, n);
                    to.isText(name + ", which fits as it is", Look.written(x, 0), figure + "0".repeat(place));
                    x.put(0, m - tiny[0], n - tiny[1]);
                    to.is(name + ", which does not quite fit", x.figure(0, place), figure - 1);
                }
            }
        }
    }

    private void point() {
        to.sentence(TERMS, "a point, if anything is left;");
        RingBases x = new RingBases();
        x.put(0, 1, 1);
        to.is("nothing is left of B times B", x.write(0), 3);
        to.is("no point: one can come", x.feed('.'), 4);
        int[] tiny = Bases.tiny(new int[] {1, 1}, 300000);
        x.put(0, 1 + tiny[0], 1 + tiny[1]);
        to.is("a millionth is left: figures ahead of the point", x.shelf(0, 3), 3);
        to.holds("a millionth is left: figures behind it", x.shelf(0, 4) > 0);
        x.write(0);
        to.is("there is a point: no other can come", x.feed('.'), OUTSIDE);
        to.is("0 has no point", x.write(1), 1);
    }

    private void behindThePoint() {
        to.sentence(TERMS, "then, again and again: what is left times B, its whole part (the greatest whole number that "
                + "fits) is the next FIGURE, which it becomes less by.");
        for (int[] base : Bases.all()) {
            // a less B is b by B, turned: so its figure behind the point is b, or what is written of -b, and nothing is left.
            RingBases x = Bases.in(base);
            boolean isAbove = base[1] > 0;
            x.put(0, isAbove ? -base[0] : base[0], isAbove ? 1 : -1);
            to.isText("a whole number fits without a rest" + Bases.name(base), Look.written(x, 0),
                    "0." + Math.abs(base[1]));
        }
        RingBases x = new RingBases();
        x.put(0, 2, -1);
        to.isText("a figure 0 behind the point", Look.written(x, 0), "0.01");
    }

    private void ends() {
        to.sentence(TERMS, "It ENDS, as nothing is left (behind 40 FIGURES behind the point no more are told).");
        isEnding(Bases.in(9, 9), -612, 124, 39, true);
        isEnding(Bases.in(9, 9), 763, -40, 40, true);
        isEnding(Bases.in(9, 9), -725, 163, 40, false);
        isEnding(Bases.in(9, -7), 9644, 3, 39, true);
        isEnding(Bases.in(9, -7), 11169, 21, 40, true);
        isEnding(Bases.in(9, -7), 12782, 259, 40, false);
        isEnding(Bases.in(1, 1), 0, 0, 0, true);
        RingBases x = Bases.in(9, 9);
        x.put(0, 763, -40);
        to.is("the 39th of 40", x.figure(0, -39), 0);
        to.is("the 40th of 40", x.figure(0, -40), 9);
        x.put(0, -725, 163);
        to.is("the 39th of 41", x.figure(0, -39), 8);
        to.is("the 40th of 41", x.figure(0, -40), 0);
    }

    private void isEnding(RingBases x, int m, int n, int behind, boolean ends) {
        String name = m + " and " + n + " B";
        x.put(0, m, n);
        to.is(name + ": figures behind the point", x.shelf(0, 4), behind);
        to.is(name + ": it ends", x.shelf(0, 5), ends ? 1 : 0);
        to.is(name + ": LEAD", x.shelf(0, 6), NONE);
        to.is(name + ": ROUND", x.shelf(0, 7), NONE);
    }

    /**
     * ROUND is never another than 1. A rest m and n times B lies from 0 to 1, so n alone tells it; times B and less
     * its whole part, n becomes n times the lesser root, rounded up. That root lies from -1 to 1: where it is above 0,
     * n never goes away from 0 and comes again only as it is; where it is below 0, n comes to 0.
     */
    private void goesRound() {
        to.sentence(TERMS, "GOES ROUND: from the first FIGURE behind the point whose rest ahead of it was ahead of one "
                + "earlier: ROUND, how many FIGURES then come again and again, LEAD, how many stand behind the point "
                + "ahead of them;");
        for (int[] base : Bases.all()) {
            if (base[1] > 0) {
                continue;
            }
            // B and 1 less a, times B, is a and b less 1 and the same again.
            RingBases x = Bases.in(base);
            x.put(0, 1 - base[0], 1);
            String name = Bases.name(base);
            to.is("none stands ahead" + name, x.shelf(0, 6), 0);
            to.is("one comes again" + name, x.shelf(0, 7), 1);
            for (int place = -1; place >= -40; place--) {
                to.is("figure " + place + name, x.figure(0, place), base[0] + base[1] - 1);
            }
            x.put(0, 2 - base[0], 1);
            to.is("what stands ahead of the point does not count" + name, x.shelf(0, 6), 0);
        }
        RingBases x = Bases.in(3, -1);
        x.put(0, -5, 2);
        to.is("0.0111 ..: one stands ahead", x.shelf(0, 6), 1);
        to.is("0.0111 ..: one comes again", x.shelf(0, 7), 1);
        to.is("0.0111 ..: the one ahead", x.figure(0, -1), 0);
        to.is("0.0111 ..: the first that comes again", x.figure(0, -2), 1);
    }

    private void roundIsTold() {
        to.sentence(TERMS, "told, if it is so by a rest ahead of one of these 40, or behind them.");
        isRound(-8001, 1010, 37, 1);
        isRound(-9498, 1313, 38, 1);
        isRound(-10947, 1461, 39, 1);
        isRound(-12588, 1594, NONE, NONE);
    }

    private void isRound(int m, int n, int lead, int round) {
        RingBases x = Bases.in(9, -7);
        String name = m + " and " + n + " B";
        x.put(0, m, n);
        to.is(name + ": LEAD", x.shelf(0, 6), lead);
        to.is(name + ": ROUND", x.shelf(0, 7), round);
        to.is(name + ": it does not end", x.shelf(0, 5), 0);
        to.is(name + ": figures behind the point", x.shelf(0, 4), 40);
    }

    private void beside() {
        to.sentence(TERMS, "3 BESIDE a NUMBER: m and n times the lesser root, its whole part (rounded down).");
        RingBases x = new RingBases();
        isBeside(x, 0, 0, 0);
        isBeside(x, -5, 0, -5);
        isBeside(x, 999999, 0, 999999);
        isBeside(x, -999999, 0, -999999);
        isBeside(x, 0, 1, -1);
        isBeside(x, 0, -1, 0);
        // Neighbours among Fibonacci's numbers are powers of the lesser root: nearly 0, by turns below and above it.
        isBeside(x, 317811, 514229, -1);
        isBeside(x, -317811, -514229, 0);
        isBeside(x, 514229, 832040, 0);
        isBeside(x, -514229, -832040, -1);
        isBeside(Bases.in(9, 9), 999999, -999999, 1908325);
        isBeside(Bases.in(9, 9), -999999, 999999, -1908326);
        isBeside(Bases.in(9, -7), 0, 1, 0);
        isBeside(Bases.in(9, -7), 0, -1, -1);
    }

    private void isBeside(RingBases x, int m, int n, int want) {
        x.put(0, m, n);
        to.is("beside " + m + " and " + n + " B in " + x.told(0) + ", " + (x.told(1) - 10), x.beside(0), want);
    }

    private void norm() {
        to.sentence(TERMS, "NORM: m m + a m n - b n n.");
        for (int[] base : Bases.all()) {
            RingBases x = Bases.in(base);
            for (int m : new int[] {-999999, 0, 999999}) {
                for (int n : new int[] {-999999, 0, 999999}) {
                    x.put(0, m, n);
                    to.is("norm of " + m + ", " + n + Bases.name(base), x.norm(0),
                            (long) m * m + (long) base[0] * m * n - (long) base[1] * n * n);
                }
            }
        }
    }

    private void byLots() {
        to.sentence(TERMS, "BY LOTS of a SEED: X (the SEED at first) becomes what is left of (X times 16807) by 2147483647 "
                + "ahead of each number wanted: m: X left over by 2001, less 1000; n likewise; both turned (-m, -n), "
                + "if that NUMBER is below 0.");
        isLot(3431, 1000, 960);
        isLot(1430, -1000, 853);
        isLot(2001, -1000, 813);
        isLot(10005, 1000, 381);
        isLot(162, -374, 1000);
        isLot(4776, -883, 1000);
        isLot(715, 0, 74);
        isLot(2716, 0, 114);
        isLot(2388, 59, 0);
        isLot(2550, 568, 0);
        isLot(1, 201, 918);
        isLot(999999, 191, 360);
        RingBases x = Bases.in(9, 9);
        x.drift(0, 5);
        isShelf("turned in a greater base", x, 0, -994, 590);
        x.base(1, 1);
        x.drift(0, 5);
        isShelf("not turned in a lesser base", x, 0, 994, -590);
    }

    private void isLot(int seed, int m, int n) {
        RingBases x = new RingBases();
        to.is("lots of " + seed, x.drift(0, seed), m + 2000);
        isShelf("lots of " + seed, x, 0, m, n);
    }

    private void undone() {
        to.sentence(TERMS, "UNDONE: the latest of base(), put(), deed(), drift() that was not refused (8 at most are kept, "
                + "the oldest are lost): THE BASE, SHELVES are as ahead of it.");
        // Rows of changes (+) and undoings (-) around the eight, against a list of all states.
        String[] runs = {"++++++++--------", "+++++++++---------", "++++++++++++++++++++----------",
            "++++++++++---+++++---------", "+++-+++++++++-----++++++----------", "-+-+-++++++++++++-+-+-+---------"};
        for (String run : runs) {
            RingBases x = new RingBases();
            List<String> past = new ArrayList<>();
            for (int i = 0; i < run.length(); i++) {
                String label = "step " + i + " of " + run;
                if (run.charAt(i) == '+') {
                    past.add(Look.state(x));
                    change(x, i);
                    if (past.size() > 8) {
                        past.remove(0);
                    }
                } else if (past.isEmpty()) {
                    to.is(label + ", none is left", x.undo(), NOT);
                } else {
                    String ahead = past.remove(past.size() - 1);
                    to.is(label, x.undo(), past.size());
                    to.isText(label, Look.state(x), ahead);
                }
                to.is(label + ", kept", x.told(11), past.size());
            }
        }
    }

    /** A change of one of the four kinds, and refused ones around it that do not count. */
    private static void change(RingBases x, int i) {
        x.base(1, 2);
        x.put(4, i, i);
        switch (i % 4) {
            case 0:
                x.base(i % 7 + 3, i % 2 == 0 ? 1 : -1);
                break;
            case 1:
                x.put(i / 4 % 4, i - 999999, 999999 - i);
                break;
            case 2:
                x.drift(i / 4 % 4, i);
                break;
            default:
                x.deed(i / 4 % 4, 1, (i / 4 + 1) % 4, (i / 4 + 1) % 4);
                break;
        }
        x.drift(0, 0);
        x.deed(0, 4, 0, 0);
    }

    private void images() {
        to.sentence(TERMS, "IMAGES 0, 1 keep these.");
        RingBases x = new RingBases();
        String first = fill(x, 9, 9, 999999);
        x.keep(0);
        String second = fill(x, 9, -7, -999996);
        x.keep(1);
        fill(x, 2, 2, 5);
        Look.feed(x, "12.");
        x.goBack(0);
        to.isText("image 0", Look.state(x), first);
        x.goBack(1);
        to.isText("image 1", Look.state(x), second);
        to.is("THE WORD is not kept", x.told(4), 3);
        for (int no : NO_IMAGES) {
            to.is("no image " + no, x.keep(no), UNKNOWN);
        }
    }

    private static String fill(RingBases x, int a, int b, int m) {
        x.base(a, b);
        for (int shelf = 0; shelf < 4; shelf++) {
            x.put(shelf, m - shelf, shelf - m);
        }
        return Look.state(x);
    }
}
