/**
 * Numbers m and n times B, where the base B is the greater root of x x = a x + b.
 * All is told exactly: a worth is never rounded, only squares of whole numbers are compared.
 */
public final class RingBases {
    public static final int NONE = -1, UNKNOWN = -2000000001, OUTSIDE = -2000000002, NOT = -2000000003, FULL = -2000000004;

    private static final int SHELVES = 4;
    private static final int IMAGES = 2;
    private static final int UNDOABLE = 8;
    private static final int BOUND = 999999;
    private static final int GREATEST_A = 9;
    private static final int GREATEST_FIGURE = 9;
    private static final int SIGNS = 60;
    private static final int SIGN_OF_POINT = 46;
    private static final int SIGN_OF_ZERO = 48;
    private static final int BEHIND = 40;
    private static final int HIGHEST_PLACE = 60;
    private static final int STATE_CELLS = 2 + 2 * SHELVES;
    private static final int WORTH_OFFSET = 1000000;

    private final State now = new State();
    private final History history = new History();
    private final Images images = new Images();
    private final Word word = new Word();
    private final Writing writing = new Writing();

    public RingBases() {
    }

    // ---- the base, numbers

    public int base(int a, int b) {
        if (!Base.canBe(a, b)) {
            return OUTSIDE;
        }
        history.remember(now);
        now.base.become(a, b);
        return now.base.top();
    }

    public int put(int shelf, int m, int n) {
        if (isNoShelf(shelf)) {
            return UNKNOWN;
        }
        if (isOutOfBounds(m) || isOutOfBounds(n)) {
            return OUTSIDE;
        }
        return lay(shelf, m, n);
    }

    public int deed(int to, int what, int one, int other) {
        if (isNoShelf(to) || isNoShelf(one) || isNoShelf(other)) {
            return UNKNOWN;
        }
        long m = now.ms[one];
        long n = now.ns[one];
        long otherM = now.ms[other];
        long otherN = now.ns[other];
        switch (what) {
            case 0:
                return lay(to, m + otherM, n + otherN);
            case 1:
                return lay(to, m - otherM, n - otherN);
            case 2:
                return lay(to, m * otherM + n * otherN * now.base.b,
                        m * otherN + n * otherM + n * otherN * now.base.a);
            case 3:
                return lay(to, now.base.raisedM(n), now.base.raisedN(m, n));
            default:
                return OUTSIDE;
        }
    }

    public int drift(int shelf, int seed) {
        if (isNoShelf(shelf)) {
            return UNKNOWN;
        }
        if (seed < 1 || seed > BOUND) {
            return OUTSIDE;
        }
        long x = lot(seed);
        long m = x % 2001 - 1000;
        x = lot(x);
        long n = x % 2001 - 1000;
        if (now.base.sign(m, n) < 0) {
            m = -m;
            n = -n;
        }
        lay(shelf, m, n);
        return (int) m + 2000;
    }

    public int undo() {
        if (history.count == 0) {
            return NOT;
        }
        history.takeBack(now);
        return history.count;
    }

    public int told(int what) {
        switch (what) {
            case 0:
                return now.base.a;
            case 1:
                return now.base.b + 10;
            case 2:
                return now.base.top();
            case 3:
                return (int) now.base.wholePart(0, 1);
            case 4:
                return word.signs();
            case 5:
                return word.badly(now.base) == NONE ? 1 : 0;
            case 6:
                return word.badly(now.base);
            case 7:
                return word.shift();
            case 8:
                return word.reckon(now.base) ? word.worthM + WORTH_OFFSET : FULL;
            case 9:
                return word.reckon(now.base) ? word.worthN + WORTH_OFFSET : FULL;
            case 10:
                return spellWord() ? writing.figureCount() : FULL;
            case 11:
                return history.count;
            default:
                return OUTSIDE;
        }
    }

    public int shelf(int shelf, int what) {
        if (isNoShelf(shelf)) {
            return UNKNOWN;
        }
        switch (what) {
            case 0:
                return now.ms[shelf];
            case 1:
                return now.ns[shelf];
            case 2:
                return signOf(shelf);
            case 3:
            case 4:
            case 5:
            case 6:
            case 7:
                return spellShelf(shelf) ? writing.tell(what) : NOT;
            case 8:
                return (int) now.base.wholePart(now.ms[shelf], now.ns[shelf]);
            default:
                return OUTSIDE;
        }
    }

    public int figure(int shelf, int place) {
        if (isNoShelf(shelf)) {
            return UNKNOWN;
        }
        if (place < -BEHIND || place > HIGHEST_PLACE) {
            return OUTSIDE;
        }
        if (!spellShelf(shelf)) {
            return NOT;
        }
        int k = writing.ahead - 1 - place;
        return writing.hasFigure(k) ? writing.figures[k] : 0;
    }

    public int compare(int shelf, int other) {
        if (isNoShelf(shelf) || isNoShelf(other)) {
            return UNKNOWN;
        }
        return now.base.sign((long) now.ms[shelf] - now.ms[other], (long) now.ns[shelf] - now.ns[other]);
    }

    public int beside(int shelf) {
        if (isNoShelf(shelf)) {
            return UNKNOWN;
        }
        // The two roots together are a, so the lesser one is a less B.
        long n = now.ns[shelf];
        return (int) now.base.wholePart(now.ms[shelf] + n * now.base.a, -n);
    }

    public long norm(int shelf) {
        if (isNoShelf(shelf)) {
            return UNKNOWN;
        }
        long m = now.ms[shelf];
        long n = now.ns[shelf];
        return m * m + now.base.a * m * n - now.base.b * n * n;
    }

    // ---- words

    public int feed(int sign) {
        boolean isPoint = sign == SIGN_OF_POINT;
        boolean isFigure = sign >= SIGN_OF_ZERO && sign <= SIGN_OF_ZERO + GREATEST_FIGURE;
        if (!isPoint && !isFigure || isPoint && word.hasPoint()) {
            return OUTSIDE;
        }
        if (word.signs() >= SIGNS) {
            return FULL;
        }
        if (isPoint) {
            word.addPoint();
        } else {
            word.addFigure(sign - SIGN_OF_ZERO);
        }
        return word.signs();
    }

    public int clear() {
        int had = word.signs();
        word.empty();
        return had;
    }

    public int normal(int k) {
        if (k < 0) {
            return OUTSIDE;
        }
        // NOT never comes: figures and the base are 0 or more, so the worth is, too.
        if (!spellWord()) {
            return FULL;
        }
        return writing.hasFigure(k) ? writing.figures[k] : NONE;
    }

    public int next(int k) {
        if (k < 0) {
            return OUTSIDE;
        }
        if (k >= word.count || !word.findFollower(now.base)) {
            return NONE;
        }
        return word.follower[k];
    }

    public int one(int k) {
        if (k < 0) {
            return OUTSIDE;
        }
        return now.base.figureOfOne(k);
    }

    public int read(int shelf) {
        if (isNoShelf(shelf)) {
            return UNKNOWN;
        }
        if (!word.reckon(now.base)) {
            return FULL;
        }
        lay(shelf, word.worthM, word.worthN);
        return word.shift();
    }

    public int write(int shelf) {
        if (isNoShelf(shelf)) {
            return UNKNOWN;
        }
        if (!spellShelf(shelf)) {
            return NOT;
        }
        int signs = writing.figureCount() + (writing.behind > 0 ? 1 : 0);
        if (signs > SIGNS) {
            return FULL;
        }
        word.copyFrom(writing);
        return signs;
    }

    // ---- images

    public int keep(int i) {
        if (i < 0 || i >= IMAGES) {
            return UNKNOWN;
        }
        images.take(i, now);
        history.forget();
        return 1;
    }

    public int goBack(int i) {
        if (i < 0 || i >= IMAGES) {
            return UNKNOWN;
        }
        if (!images.kept[i]) {
            return NOT;
        }
        images.give(i, now);
        history.forget();
        return 1;
    }

    // ---- what several calls share

    private static boolean isNoShelf(int shelf) {
        return shelf < 0 || shelf >= SHELVES;
    }

    private static boolean isOutOfBounds(long mOrN) {
        return mOrN < -BOUND || mOrN > BOUND;
    }

    private static long lot(long x) {
        return x * 16807 % 2147483647;
    }

    private int signOf(int shelf) {
        return now.base.sign(now.ms[shelf], now.ns[shelf]);
    }

    /** The one way by which a shelf changes, so that each change can be undone. */
    private int lay(int shelf, long m, long n) {
        if (isOutOfBounds(m) || isOutOfBounds(n)) {
            return FULL;
        }
        history.remember(now);
        now.ms[shelf] = (int) m;
        now.ns[shelf] = (int) n;
        return signOf(shelf);
    }

    private boolean spellShelf(int shelf) {
        if (signOf(shelf) < 0) {
            return false;
        }
        writing.spell(now.base, now.ms[shelf], now.ns[shelf]);
        return true;
    }

    private boolean spellWord() {
        if (!word.reckon(now.base)) {
            return false;
        }
        writing.spell(now.base, word.worthM, word.worthN);
        return true;
    }

    /** The base, and what can be said exactly of m and n times it. */
    private static final class Base {
        private int a = 1;
        private int b = 1;

        static boolean canBe(int a, int b) {
            if (a < 1 || a > GREATEST_A) {
                return false;
            }
            return b >= 1 && b <= a || b <= -1 && b >= 2 - a;
        }

        void become(int newA, int newB) {
            a = newA;
            b = newB;
        }

        int top() {
            return b > 0 ? a : a - 1;
        }

        int figureOfOne(int k) {
            if (b > 0) {
                return k % 2 == 0 ? a : b - 1;
            }
            return k == 0 ? a - 1 : a + b - 1;
        }

        long raisedM(long n) {
            return n * b;
        }

        long raisedN(long m, long n) {
            return m + n * a;
        }

        /** The square of what lies between the two roots; for no a and b that can be it is a whole number's square. */
        private long rootsApartSquared() {
            return (long) a * a + 4L * b;
        }

        /** 1, 0, -1 as m and n times B is above 0, 0, below. */
        int sign(long m, long n) {
            // Twice the number is p and n times the square root of rootsApartSquared.
            long p = 2 * m + n * a;
            int signOfP = Long.compare(p, 0);
            int signOfN = Long.compare(n, 0);
            if (signOfN == 0 || signOfN == signOfP) {
                return signOfP;
            }
            return p * p > n * n * rootsApartSquared() ? signOfP : signOfN;
        }

        /** The greatest whole number that is not above m and n times B. */
        long wholePart(long m, long n) {
            long size = Math.abs(n);
            long part = (size * a + squareRoot(size * size * rootsApartSquared())) / 2;
            if (n >= 0) {
                return m + part;
            }
            // n times B is no whole number, so turned it lies below -part.
            return m - part - 1;
        }

        private static long squareRoot(long square) {
            long root = 0;
            for (long bit = 1L << 30; bit > 0; bit >>= 1) {
                long tried = root + bit;
                if (tried * tried <= square) {
                    root = tried;
                }
            }
            return root;
        }
    }

    /** The base and the shelves: all that undo() and the images bring back. */
    private static final class State {
        private final Base base = new Base();
        private final int[] ms = new int[SHELVES];
        private final int[] ns = new int[SHELVES];

        void copyInto(int[] cells, int from) {
            if (from < 0 || from > cells.length - STATE_CELLS) {
                return;
            }
            cells[from] = base.a;
            cells[from + 1] = base.b;
            System.arraycopy(ms, 0, cells, from + 2, SHELVES);
            System.arraycopy(ns, 0, cells, from + 2 + SHELVES, SHELVES);
        }

        void copyFrom(int[] cells, int from) {
            if (from < 0 || from > cells.length - STATE_CELLS) {
                return;
            }
            base.become(cells[from], cells[from + 1]);
            System.arraycopy(cells, from + 2, ms, 0, SHELVES);
            System.arraycopy(cells, from + 2 + SHELVES, ns, 0, SHELVES);
        }
    }

    /** The latest states, in a row that goes round: the oldest gives way to the newest. */
    private static final class History {
        private final int[] cells = new int[UNDOABLE * STATE_CELLS];
        private int oldest = 0;
        private int count = 0;

        void remember(State state) {
            state.copyInto(cells, (oldest + count) % UNDOABLE * STATE_CELLS);
            if (count < UNDOABLE) {
                count++;
            } else {
                oldest = (oldest + 1) % UNDOABLE;
            }
        }

        void takeBack(State state) {
            if (count == 0) {
                return;
            }
            count--;
            state.copyFrom(cells, (oldest + count) % UNDOABLE * STATE_CELLS);
        }

        void forget() {
            count = 0;
        }
    }

    /** The two images. */
    private static final class Images {
        private final int[] cells = new int[IMAGES * STATE_CELLS];
        private final boolean[] kept = new boolean[IMAGES];

        void take(int i, State state) {
            state.copyInto(cells, i * STATE_CELLS);
            kept[i] = true;
        }

        void give(int i, State state) {
            state.copyFrom(cells, i * STATE_CELLS);
        }
    }

    /** What a number of 0 or more has written. */
    private static final class Writing {
        // From the left, those ahead of the point first.
        private final int[] figures = new int[HIGHEST_PLACE + 1 + BEHIND];
        private int ahead = 0;
        private int behind = 0;
        private boolean ends = false;
        private int lead = NONE;
        private int round = NONE;

        private final long[] powerMs = new long[HIGHEST_PLACE + 1];
        private final long[] powerNs = new long[HIGHEST_PLACE + 1];
        private final long[] restMs = new long[BEHIND];
        private final long[] restNs = new long[BEHIND];
        private long leftM = 0;
        private long leftN = 0;

        // Of which base and number all this is, as many calls ask of the same one.
        private int ofA = 0;
        private int ofB = 0;
        private int ofM = 0;
        private int ofN = 0;

        int figureCount() {
            return ahead + behind;
        }

        boolean hasFigure(int k) {
            return k >= 0 && k < ahead + behind;
        }

        /** What shelf() answers, by its own numbers 3 to 7. */
        int tell(int what) {
            switch (what) {
                case 3:
                    return ahead;
                case 4:
                    return behind;
                case 5:
                    return ends ? 1 : 0;
                case 6:
                    return lead;
                default:
                    return round;
            }
        }

        /** Writes m and n times the base, which must not be below 0. */
        void spell(Base base, int m, int n) {
            if (ofA == base.a && ofB == base.b && ofM == m && ofN == n) {
                return;
            }
            ofA = base.a;
            ofB = base.b;
            ofM = m;
            ofN = n;
            leftM = m;
            leftN = n;
            spellAhead(base, highestPlace(base));
            spellBehind(base);
        }

        private void spellAhead(Base base, int highest) {
            ahead = 0;
            for (int place = highest; place >= 0; place--) {
                figures[ahead] = takeOut(base, powerMs[place], powerNs[place]);
                ahead++;
            }
        }

        /** The highest place that is needed; the powers of the base up to it are laid down. */
        private int highestPlace(Base base) {
            powerMs[0] = 1;
            powerNs[0] = 0;
            for (int h = 0; h < HIGHEST_PLACE; h++) {
                long m = base.raisedM(powerNs[h]);
                long n = base.raisedN(powerMs[h], powerNs[h]);
                if (base.sign(leftM - m, leftN - n) < 0) {
                    return h;
                }
                powerMs[h + 1] = m;
                powerNs[h + 1] = n;
            }
            return HIGHEST_PLACE;
        }

        private void spellBehind(Base base) {
            behind = 0;
            lead = NONE;
            round = NONE;
            for (int j = 0; j < BEHIND && isAnythingLeft(); j++) {
                lookForRound(j);
                restMs[j] = leftM;
                restNs[j] = leftN;
                leftM = base.raisedM(restNs[j]);
                leftN = base.raisedN(restMs[j], restNs[j]);
                figures[ahead + j] = takeOut(base, 1, 0);
                behind = j + 1;
            }
            ends = !isAnythingLeft();
            if (!ends) {
                lookForRound(BEHIND);
            }
        }

        private boolean isAnythingLeft() {
            return leftM != 0 || leftN != 0;
        }

        /** Looks whether what is left was left ahead of one of the first figures behind the point, too. */
        private void lookForRound(int figuresSoFar) {
            if (round != NONE) {
                return;
            }
            for (int i = 0; i < figuresSoFar; i++) {
                if (restMs[i] == leftM && restNs[i] == leftN) {
                    lead = i;
                    round = figuresSoFar - i;
                    return;
                }
            }
        }

        /** Takes m and n times the base out of what is left as often as it fits: how often. */
        private int takeOut(Base base, long m, long n) {
            int times = 0;
            while (times < GREATEST_FIGURE && base.sign(leftM - m, leftN - n) >= 0) {
                leftM -= m;
                leftN -= n;
                times++;
            }
            return times;
        }
    }

    /** The word by hand: its figures, and how many of them stand ahead of its point. */
    private static final class Word {
        private final int[] figures = new int[SIGNS];
        private final int[] follower = new int[SIGNS];
        private int count = 0;
        private int aheadOfPoint = NONE;
        private int worthM = 0;
        private int worthN = 0;

        boolean hasPoint() {
            return aheadOfPoint != NONE;
        }

        int signs() {
            return hasPoint() ? count + 1 : count;
        }

        int shift() {
            return hasPoint() ? count - aheadOfPoint : 0;
        }

        void addPoint() {
            aheadOfPoint = count;
        }

        void addFigure(int figure) {
            if (count < figures.length) {
                figures[count] = figure;
                count++;
            }
        }

        void empty() {
            count = 0;
            aheadOfPoint = NONE;
        }

        void copyFrom(Writing writing) {
            empty();
            for (int k = 0; k < writing.figureCount(); k++) {
                addFigure(writing.figures[k]);
            }
            if (writing.behind > 0) {
                aheadOfPoint = writing.ahead;
            }
        }

        /** Reckons the worth; false if it comes out of bounds on the way. */
        boolean reckon(Base base) {
            long m = 0;
            long n = 0;
            for (int i = 0; i < count; i++) {
                long raisedN = base.raisedN(m, n);
                m = base.raisedM(n) + figures[i];
                n = raisedN;
                if (isOutOfBounds(m) || isOutOfBounds(n)) {
                    return false;
                }
            }
            worthM = (int) m;
            worthN = (int) n;
            return true;
        }

        /** The sign from which the word is not well, or NONE. */
        int badly(Base base) {
            int k = firstBad(figures, count, base);
            return hasPoint() && k >= aheadOfPoint ? k + 1 : k;
        }

        private static int firstBad(int[] row, int length, Base base) {
            for (int from = 0; from < length; from++) {
                if (!isLessThanOne(row, from, length, base)) {
                    return from;
                }
            }
            return NONE;
        }

        /** An end that is like the beginning of ONE is less: it goes on with zeros, ONE does not. */
        private static boolean isLessThanOne(int[] row, int from, int length, Base base) {
            for (int i = from; i < length; i++) {
                int figureOfOne = base.figureOfOne(i - from);
                if (row[i] != figureOfOne) {
                    return row[i] < figureOfOne;
                }
            }
            return true;
        }

        /**
         * Lays the next word into follower; false if there is none. Only 1 more at a place and zeros
         * behind it needs a trial: if that is not well, nothing greater with the same beginning is.
         */
        boolean findFollower(Base base) {
            System.arraycopy(figures, 0, follower, 0, count);
            for (int i = count - 1; i >= 0; i--) {
                follower[i]++;
                if (firstBad(follower, i + 1, base) == NONE) {
                    return true;
                }
                follower[i] = 0;
            }
            return false;
        }
    }
}
