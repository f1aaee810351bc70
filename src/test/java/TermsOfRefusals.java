import java.util.ArrayList;
import java.util.List;
import java.util.function.ToLongFunction;

/** "Terms", its beginning: numbering, NONE, the REFUSALS and their order, what is refused changes nothing. */
final class TermsOfRefusals extends BoundaryPart {
    private static final String TERMS = "Terms";

    private record Call(String name, long due, ToLongFunction<RingBases> call) {
    }

    TermsOfRefusals(Boundaries to) {
        super(to);
    }

    @Override
    void run() {
        withoutCase();
        numbersFromZero();
        noneIsMinusOne();
        orderOfRefusals();
        orderOfRefusalsOfWords();
        farBelow();
        changesNothing();
    }

    private void withoutCase() {
        to.withoutCase(TERMS, "Words in capitals are told where they come first.", "it tells of the document's own words");
        to.withoutCase(TERMS, "All numbers are whole; / cuts towards 0.",
                "no sentence divides; what is left over (BY LOTS) is of numbers above 0, where all ways agree");
        to.withoutCase(TERMS, "Ahead of the calls `base`, `put`, `deed`, `drift`, `undo`, `told`, `shelf`, `figure`, "
                + "`compare`, `beside`, `norm` the interface says: ---- the base, numbers.", "a heading");
        to.withoutCase(TERMS, "Ahead of the calls `feed`, `clear`, `normal`, `next`, `one`, `read`, `write` the interface "
                + "says: ---- words.", "a heading");
        to.withoutCase(TERMS, "Ahead of the calls `keep`, `goBack` the interface says: ---- images.", "a heading");
    }

    private void numbersFromZero() {
        to.sentence(TERMS, "What has a number has it from 0 on, as it comes.");
        RingBases x = new RingBases();
        to.is("the first shelf is 0", x.put(0, 3, 0), 1);
        to.is("no shelf is ahead of it", x.put(-1, 3, 0), UNKNOWN);
        to.is("the first image is 0", x.keep(0), 1);
        to.is("no image is ahead of it", x.keep(-1), UNKNOWN);
        Look.feed(x, "2");
        to.is("the first sign has the number 0", x.told(6), 0);
        Look.feed(x, ".02");
        to.is("the third sign has the number 2", x.told(6), 2);
        Look.feed(x, "001");
        to.is("the first figure of NEXT", x.next(0), 0);
        to.is("the second figure of NEXT", x.next(1), 1);
        to.is("the third figure of NEXT", x.next(2), 0);
        Look.feed(x, "11");
        to.is("the first figure of NORMAL", x.normal(0), 1);
        to.is("the third figure of NORMAL", x.normal(2), 0);
        to.is("the first figure of ONE", x.one(0), 1);
        to.is("the second figure of ONE", x.one(1), 0);
    }

    private void noneIsMinusOne() {
        to.sentence(TERMS, "NONE is -1.");
        RingBases x = new RingBases();
        to.is("the constant", RingBases.NONE, -1);
        to.is("BADLY of an empty word", x.told(6), -1);
        to.is("LEAD of 0", x.shelf(0, 6), -1);
        to.is("ROUND of 0", x.shelf(0, 7), -1);
        to.is("normal(), not so many", x.normal(1), -1);
        to.is("next(), not so many", x.next(0), -1);
    }

    private void orderOfRefusals() {
        to.sentence(TERMS, "REFUSALS, of several the first in this order: UNKNOWN (a SHELF, IMAGE that there is not), "
                + "OUTSIDE (another number out of its bounds), NOT (not now, as told), FULL.");
        RingBases x = Bases.in(9, 9);
        x.put(0, 999999, 999999);
        x.put(1, -1, 0);
        for (int no : NO_SHELVES) {
            to.is("put: UNKNOWN ahead of OUTSIDE, m", x.put(no, 1000000, 0), UNKNOWN);
            to.is("put: UNKNOWN ahead of OUTSIDE, n", x.put(no, 0, -1000000), UNKNOWN);
            to.is("deed: UNKNOWN (to) ahead of OUTSIDE", x.deed(no, 4, 0, 0), UNKNOWN);
            to.is("deed: UNKNOWN (one) ahead of OUTSIDE", x.deed(0, -1, no, 0), UNKNOWN);
            to.is("deed: UNKNOWN (other) ahead of OUTSIDE", x.deed(0, 4, 0, no), UNKNOWN);
            to.is("deed: UNKNOWN (to) ahead of FULL", x.deed(no, 0, 0, 0), UNKNOWN);
            to.is("deed: UNKNOWN (other) ahead of FULL", x.deed(2, 3, 0, no), UNKNOWN);
            to.is("drift: UNKNOWN ahead of OUTSIDE", x.drift(no, 0), UNKNOWN);
            to.is("shelf: UNKNOWN ahead of OUTSIDE", x.shelf(no, 9), UNKNOWN);
            to.is("figure: UNKNOWN ahead of OUTSIDE", x.figure(no, 61), UNKNOWN);
        }
        for (int what : new int[] {-1, 4, LEAST, GREATEST}) {
            to.is("deed: OUTSIDE ahead of FULL", x.deed(2, what, 0, 0), OUTSIDE);
        }
        for (int what : new int[] {-1, 9, LEAST, GREATEST}) {
            to.is("shelf: OUTSIDE ahead of NOT", x.shelf(1, what), OUTSIDE);
        }
        for (int place : new int[] {-41, 61, LEAST, GREATEST}) {
            to.is("figure: OUTSIDE ahead of NOT", x.figure(1, place), OUTSIDE);
        }
        for (int no : NO_IMAGES) {
            to.is("goBack: UNKNOWN ahead of NOT", x.goBack(no), UNKNOWN);
        }
    }

    /**
     * Of words. NOT comes with no other refusal here: write() of a number below 0 has nothing written that
     * could be too long, and NOT of normal() and told(10) never comes (see TermsOfWords).
     */
    private void orderOfRefusalsOfWords() {
        RingBases x = new RingBases();
        Look.feed(x, "1".repeat(60));
        to.is("feed: OUTSIDE (no sign) ahead of FULL", x.feed(47), OUTSIDE);
        to.is("feed: OUTSIDE (no sign) ahead of FULL", x.feed(58), OUTSIDE);
        to.is("feed: FULL alone, a first point", x.feed('.'), FULL);
        to.is("normal: OUTSIDE ahead of FULL", x.normal(-1), OUTSIDE);
        for (int no : NO_SHELVES) {
            to.is("read: UNKNOWN ahead of FULL", x.read(no), UNKNOWN);
        }
        to.is("told: OUTSIDE, though WORTH is FULL", x.told(12), OUTSIDE);
        Look.feed(x, "." + "1".repeat(59));
        to.is("feed: OUTSIDE (a second point) ahead of FULL", x.feed('.'), OUTSIDE);
    }

    private void farBelow() {
        to.sentence(TERMS, "They are far below all that is counted: -2000000001 and on.");
        to.is("UNKNOWN", RingBases.UNKNOWN, -2000000001);
        to.is("OUTSIDE", RingBases.OUTSIDE, -2000000002);
        to.is("NOT", RingBases.NOT, -2000000003);
        to.is("FULL", RingBases.FULL, -2000000004);
        RingBases x = Bases.in(9, 9);
        x.put(0, -999999, -999999);
        x.put(1, -999999, 999999);
        to.is("the least whole part", x.shelf(0, 8), -10908317);
        to.is("the least that stands beside a number", x.beside(1), -1908326);
        // norm() alone goes farther down, as a long: it is reckoned, not counted.
        to.is("the least norm", x.norm(1), -17L * 999999 * 999999);
    }

    /** All that there can be: a base, numbers at the bounds, 8 changes that went round, an image, 60 signs with a point. */
    private static RingBases rich() {
        RingBases x = new RingBases();
        x.base(5, -2);
        x.put(0, 999999, 5);
        x.put(1, -70, 1);
        x.keep(0);
        x.put(2, 3, 4);
        x.base(7, 3);
        x.put(3, 8, 9);
        for (int seed = 1; seed <= 7; seed++) {
            x.drift(2, seed);
        }
        x.deed(3, 0, 2, 3);
        Look.feed(x, "06.15" + "21".repeat(27) + "3");
        return x;
    }

    private static List<Call> refusedCalls() {
        List<Call> calls = new ArrayList<>();
        calls.add(new Call("base(0, 1)", OUTSIDE, x -> x.base(0, 1)));
        calls.add(new Call("base(10, 1)", OUTSIDE, x -> x.base(10, 1)));
        calls.add(new Call("base(4, 0)", OUTSIDE, x -> x.base(4, 0)));
        calls.add(new Call("base(4, 5)", OUTSIDE, x -> x.base(4, 5)));
        calls.add(new Call("base(4, -3)", OUTSIDE, x -> x.base(4, -3)));
        calls.add(new Call("put(4, 1, 1)", UNKNOWN, x -> x.put(4, 1, 1)));
        calls.add(new Call("put(0, 1000000, 1)", OUTSIDE, x -> x.put(0, 1000000, 1)));
        calls.add(new Call("put(0, 1, -1000000)", OUTSIDE, x -> x.put(0, 1, -1000000)));
        calls.add(new Call("deed(4, 0, 1, 2)", UNKNOWN, x -> x.deed(4, 0, 1, 2)));
        calls.add(new Call("deed(0, 0, 4, 2)", UNKNOWN, x -> x.deed(0, 0, 4, 2)));
        calls.add(new Call("deed(0, 3, 1, 4)", UNKNOWN, x -> x.deed(0, 3, 1, 4)));
        calls.add(new Call("deed(0, 4, 1, 2)", OUTSIDE, x -> x.deed(0, 4, 1, 2)));
        calls.add(new Call("deed(1, 0, 0, 0)", FULL, x -> x.deed(1, 0, 0, 0)));
        calls.add(new Call("deed(0, 1, 1, 0)", FULL, x -> x.deed(0, 1, 1, 0)));
        calls.add(new Call("deed(0, 2, 0, 0)", FULL, x -> x.deed(0, 2, 0, 0)));
        calls.add(new Call("deed(1, 3, 0, 0)", FULL, x -> x.deed(1, 3, 0, 0)));
        calls.add(new Call("drift(4, 1)", UNKNOWN, x -> x.drift(4, 1)));
        calls.add(new Call("drift(0, 0)", OUTSIDE, x -> x.drift(0, 0)));
        calls.add(new Call("drift(0, 1000000)", OUTSIDE, x -> x.drift(0, 1000000)));
        calls.add(new Call("told(12)", OUTSIDE, x -> x.told(12)));
        calls.add(new Call("told(8)", FULL, x -> x.told(8)));
        calls.add(new Call("told(10)", FULL, x -> x.told(10)));
        calls.add(new Call("shelf(4, 0)", UNKNOWN, x -> x.shelf(4, 0)));
        calls.add(new Call("shelf(0, 9)", OUTSIDE, x -> x.shelf(0, 9)));
        calls.add(new Call("shelf(1, 3)", NOT, x -> x.shelf(1, 3)));
        calls.add(new Call("figure(4, 0)", UNKNOWN, x -> x.figure(4, 0)));
        calls.add(new Call("figure(0, 61)", OUTSIDE, x -> x.figure(0, 61)));
        calls.add(new Call("figure(1, 0)", NOT, x -> x.figure(1, 0)));
        calls.add(new Call("compare(0, 4)", UNKNOWN, x -> x.compare(0, 4)));
        calls.add(new Call("beside(4)", UNKNOWN, x -> x.beside(4)));
        calls.add(new Call("norm(4)", UNKNOWN, x -> x.norm(4)));
        calls.add(new Call("feed(47)", OUTSIDE, x -> x.feed(47)));
        calls.add(new Call("feed(46)", OUTSIDE, x -> x.feed(46)));
        calls.add(new Call("feed(48)", FULL, x -> x.feed(48)));
        calls.add(new Call("normal(-1)", OUTSIDE, x -> x.normal(-1)));
        calls.add(new Call("normal(0)", FULL, x -> x.normal(0)));
        calls.add(new Call("next(-1)", OUTSIDE, x -> x.next(-1)));
        calls.add(new Call("one(-1)", OUTSIDE, x -> x.one(-1)));
        calls.add(new Call("read(4)", UNKNOWN, x -> x.read(4)));
        calls.add(new Call("read(0)", FULL, x -> x.read(0)));
        calls.add(new Call("write(4)", UNKNOWN, x -> x.write(4)));
        calls.add(new Call("write(1)", NOT, x -> x.write(1)));
        calls.add(new Call("keep(2)", UNKNOWN, x -> x.keep(2)));
        calls.add(new Call("goBack(2)", UNKNOWN, x -> x.goBack(2)));
        calls.add(new Call("goBack(1)", NOT, x -> x.goBack(1)));
        return calls;
    }

    private void changesNothing() {
        to.sentence(TERMS, "What is refused changes nothing.");
        String untouched = Look.all(rich());
        for (Call call : refusedCalls()) {
            RingBases x = rich();
            to.is(call.name, call.call.applyAsLong(x), call.due);
            to.isText("all behind " + call.name, Look.all(x), untouched);
        }
        RingBases kept = rich();
        kept.keep(0);
        untouched = Look.all(kept);
        RingBases x = rich();
        x.keep(0);
        to.is("undo()", x.undo(), NOT);
        to.isText("all behind undo()", Look.all(x), untouched);
    }
}
