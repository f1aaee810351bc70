/** A part of the boundary tests, with the answers and the wrong arguments that all parts use. */
abstract class BoundaryPart {
    static final int NONE = -1, UNKNOWN = -2000000001, OUTSIDE = -2000000002, NOT = -2000000003, FULL = -2000000004;
    static final int LEAST = Integer.MIN_VALUE;
    static final int GREATEST = Integer.MAX_VALUE;
    static final int[] NO_SHELVES = {-1, 4, LEAST, GREATEST};
    static final int[] NO_IMAGES = {-1, 2, LEAST, GREATEST};
    static final int[] BELOW_ZERO = {-1, -2, LEAST};

    final Boundaries to;

    BoundaryPart(Boundaries to) {
        this.to = to;
    }

    abstract void run();

    void isShelf(String label, RingBases x, int shelf, int m, int n) {
        to.is(label + ": m of shelf " + shelf, x.shelf(shelf, 0), m);
        to.is(label + ": n of shelf " + shelf, x.shelf(shelf, 1), n);
    }
}
