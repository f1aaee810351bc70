import java.math.BigDecimal;
import java.math.MathContext;
import java.util.ArrayDeque;
import java.util.ArrayList;
import java.util.HashMap;
import java.util.List;
import java.util.Map;

/**
 * The document once more, slowly and by other means than the class: the worth of the base as a
 * decimal of 80 figures, rows as lists, the state as a copy per call.
 */
final class Model {
    static final int NONE = -1, UNKNOWN = -2000000001, OUTSIDE = -2000000002, NOT = -2000000003, FULL = -2000000004;
    private static final MathContext EXACT_ENOUGH = new MathContext(80);

    /** A number: m and n times the base. */
    record Pair(long m, long n) {
        Pair less(Pair other) {
            return new Pair(m - other.m, n - other.n);
        }

        boolean inBounds() {
            return Math.abs(m) <= 999999 && Math.abs(n) <= 999999;
        }
    }

    record State(int a, int b, List<Pair> shelves) {
    }

    record Written(List<Integer> ahead, List<Integer> behind, boolean ends, int lead, int round) {
        List<Integer> all() {
            List<Integer> all = new ArrayList<>(ahead);
            all.addAll(behind);
            return all;
        }
    }

    private State now = new State(1, 1, List.of(new Pair(0, 0), new Pair(0, 0), new Pair(0, 0), new Pair(0, 0)));
    private final ArrayDeque<State> past = new ArrayDeque<>();
    private final State[] images = new State[2];
    private String word = "";

    // ---- reckoning

    private BigDecimal root(boolean greater) {
        BigDecimal apart = BigDecimal.valueOf(now.a * now.a + 4 * now.b).sqrt(EXACT_ENOUGH);
        BigDecimal a = BigDecimal.valueOf(now.a);
        return (greater ? a.add(apart) : a.subtract(apart)).divide(BigDecimal.valueOf(2));
    }

    private BigDecimal worth(Pair p, boolean greater) {
        return BigDecimal.valueOf(p.m).add(BigDecimal.valueOf(p.n).multiply(root(greater)));
    }

    private int sign(Pair p) {
        return p.m == 0 && p.n == 0 ? 0 : worth(p, true).signum();
    }

    private static int floor(Pair p, BigDecimal worth) {
        if (p.n == 0) {
            return (int) p.m;
        }
        return worth.setScale(0, java.math.RoundingMode.FLOOR).intValueExact();
    }

    private Pair timesBase(Pair p) {
        return new Pair(p.n * now.b, p.m + p.n * now.a);
    }

    private Pair times(Pair p, Pair q) {
        Pair byN = timesBase(new Pair(p.m * q.n, p.n * q.n));
        return new Pair(p.m * q.m + byN.m, p.n * q.m + byN.n);
    }

    private int fits(Pair part, Pair whole) {
        int times = 0;
        Pair left = whole.less(part);
        while (sign(left) >= 0) {
            times++;
            left = left.less(part);
        }
        return times;
    }

    Written written(Pair p) {
        List<Pair> powers = new ArrayList<>();
        powers.add(new Pair(1, 0));
        Pair above = timesBase(powers.get(0));
        while (sign(p.less(above)) >= 0) {
            powers.add(above);
            above = timesBase(above);
        }
        List<Integer> ahead = new ArrayList<>();
        Pair left = p;
        for (int place = powers.size() - 1; place >= 0; place--) {
            int figure = fits(powers.get(place), left);
            ahead.add(figure);
            left = left.less(new Pair(figure * powers.get(place).m, figure * powers.get(place).n));
        }
        List<Integer> behind = new ArrayList<>();
        Map<Pair, Integer> seen = new HashMap<>();
        int lead = NONE;
        int round = NONE;
        for (int j = 0; j <= 40; j++) {
            if (left.m == 0 && left.n == 0) {
                return new Written(ahead, behind, true, NONE, NONE);
            }
            Integer earlier = seen.putIfAbsent(left, j);
            if (earlier != null && round == NONE) {
                lead = earlier;
                round = j - earlier;
            }
            if (j < 40) {
                left = timesBase(left);
                int figure = floor(left, worth(left, true));
                behind.add(figure);
                left = left.less(new Pair(figure, 0));
            }
        }
        return new Written(ahead, behind, false, lead, round);
    }

    /** The first figures of ONE, by the document's own way to it. */
    private List<Integer> firstOfOne(int howMany) {
        List<Integer> row = new ArrayList<>();
        Pair left = new Pair(1, 0);
        while (row.size() < howMany) {
            left = timesBase(left);
            int figure = floor(left, worth(left, true));
            left = left.less(new Pair(figure, 0));
            if (left.m == 0 && left.n == 0) {
                row.add(figure - 1);
                left = new Pair(1, 0);
            } else {
                row.add(figure);
            }
        }
        return row;
    }

    // ---- words

    private List<Integer> figures() {
        List<Integer> figures = new ArrayList<>();
        for (char c : word.toCharArray()) {
            if (c != '.') {
                figures.add(c - '0');
            }
        }
        return figures;
    }

    private int shift() {
        int point = word.indexOf('.');
        return point < 0 ? 0 : word.length() - 1 - point;
    }

    private Pair worthOfWord() {
        Pair p = new Pair(0, 0);
        for (int figure : figures()) {
            p = timesBase(p);
            p = new Pair(p.m + figure, p.n);
            if (!p.inBounds()) {
                return null;
            }
        }
        return p;
    }

    /** The first figure from which the row, with zeros behind it, is not less than ONE. */
    private static int firstBad(List<Integer> row, List<Integer> one) {
        for (int from = 0; from < row.size(); from++) {
            int difference = 0;
            for (int i = 0; difference == 0 && i < one.size(); i++) {
                int figure = from + i < row.size() ? row.get(from + i) : 0;
                difference = Integer.compare(figure, one.get(i));
            }
            if (difference >= 0) {
                return from;
            }
        }
        return NONE;
    }

    private int badly() {
        int bad = firstBad(figures(), firstOfOne(word.length() + 4));
        if (bad == NONE) {
            return NONE;
        }
        int seen = 0;
        for (int i = 0; i < word.length(); i++) {
            if (word.charAt(i) != '.') {
                if (seen == bad) {
                    return i;
                }
                seen++;
            }
        }
        throw new IllegalStateException();
    }

    private List<Integer> nextOfWord() {
        List<Integer> row = figures();
        return grow(new ArrayList<>(), row, true, firstOfOne(row.size() + 4));
    }

    /** Tries figure after figure, from the left, and leaves a beginning as soon as it is not well. */
    private static List<Integer> grow(List<Integer> begun, List<Integer> word, boolean alike, List<Integer> one) {
        if (begun.size() == word.size()) {
            return alike ? null : begun;
        }
        for (int figure = alike ? word.get(begun.size()) : 0; figure <= 9; figure++) {
            List<Integer> longer = new ArrayList<>(begun);
            longer.add(figure);
            if (firstBad(longer, one) != NONE) {
                return null;
            }
            List<Integer> found = grow(longer, word, alike && figure == word.get(begun.size()), one);
            if (found != null) {
                return found;
            }
        }
        return null;
    }

    // ---- changes

    private static boolean isNoShelf(int shelf) {
        return shelf < 0 || shelf > 3;
    }

    private void become(State state) {
        past.addLast(now);
        if (past.size() > 8) {
            past.removeFirst();
        }
        now = state;
    }

    private int lay(int shelf, Pair p) {
        List<Pair> shelves = new ArrayList<>(now.shelves);
        shelves.set(shelf, p);
        become(new State(now.a, now.b, shelves));
        return sign(p);
    }

    private Pair at(int shelf) {
        return now.shelves.get(shelf);
    }

    // ---- the face

    int base(int a, int b) {
        boolean above = b >= 1 && b <= a;
        boolean below = b <= -1 && b >= 2 - (long) a;
        if (a < 1 || a > 9 || !above && !below) {
            return OUTSIDE;
        }
        become(new State(a, b, now.shelves));
        return above ? a : a - 1;
    }

    int put(int shelf, int m, int n) {
        if (isNoShelf(shelf)) {
            return UNKNOWN;
        }
        Pair p = new Pair(m, n);
        return p.inBounds() ? lay(shelf, p) : OUTSIDE;
    }

    int deed(int to, int what, int one, int other) {
        if (isNoShelf(to) || isNoShelf(one) || isNoShelf(other)) {
            return UNKNOWN;
        }
        if (what < 0 || what > 3) {
            return OUTSIDE;
        }
        Pair p = at(one);
        Pair q = at(other);
        Pair made = what == 0 ? new Pair(p.m + q.m, p.n + q.n)
                : what == 1 ? p.less(q)
                : what == 2 ? times(p, q) : timesBase(p);
        return made.inBounds() ? lay(to, made) : FULL;
    }

    int drift(int shelf, int seed) {
        if (isNoShelf(shelf)) {
            return UNKNOWN;
        }
        if (seed < 1 || seed > 999999) {
            return OUTSIDE;
        }
        long first = seed * 16807L % 2147483647L;
        long second = first * 16807L % 2147483647L;
        Pair p = new Pair(first % 2001 - 1000, second % 2001 - 1000);
        if (sign(p) < 0) {
            p = new Pair(-p.m, -p.n);
        }
        lay(shelf, p);
        return (int) p.m + 2000;
    }

    int undo() {
        if (past.isEmpty()) {
            return NOT;
        }
        now = past.removeLast();
        return past.size();
    }

    int told(int what) {
        Pair worth = worthOfWord();
        return switch (what) {
            case 0 -> now.a;
            case 1 -> now.b + 10;
            case 2 -> now.b > 0 ? now.a : now.a - 1;
            case 3 -> floor(new Pair(0, 1), root(true));
            case 4 -> word.length();
            case 5 -> badly() == NONE ? 1 : 0;
            case 6 -> badly();
            case 7 -> shift();
            case 8 -> worth == null ? FULL : (int) worth.m + 1000000;
            case 9 -> worth == null ? FULL : (int) worth.n + 1000000;
            case 10 -> worth == null ? FULL : written(worth).all().size();
            case 11 -> past.size();
            default -> OUTSIDE;
        };
    }

    int shelf(int shelf, int what) {
        if (isNoShelf(shelf)) {
            return UNKNOWN;
        }
        if (what < 0 || what > 8) {
            return OUTSIDE;
        }
        Pair p = at(shelf);
        if (what >= 3 && what <= 7 && sign(p) < 0) {
            return NOT;
        }
        return switch (what) {
            case 0 -> (int) p.m;
            case 1 -> (int) p.n;
            case 2 -> sign(p);
            case 3 -> written(p).ahead.size();
            case 4 -> written(p).behind.size();
            case 5 -> written(p).ends ? 1 : 0;
            case 6 -> written(p).lead;
            case 7 -> written(p).round;
            default -> floor(p, worth(p, true));
        };
    }

    int figure(int shelf, int place) {
        if (isNoShelf(shelf)) {
            return UNKNOWN;
        }
        if (place < -40 || place > 60) {
            return OUTSIDE;
        }
        if (sign(at(shelf)) < 0) {
            return NOT;
        }
        Written written = written(at(shelf));
        List<Integer> part = place < 0 ? written.behind : written.ahead;
        int k = place < 0 ? -place - 1 : part.size() - 1 - place;
        return k >= 0 && k < part.size() ? part.get(k) : 0;
    }

    int compare(int shelf, int other) {
        return isNoShelf(shelf) || isNoShelf(other) ? UNKNOWN : sign(at(shelf).less(at(other)));
    }

    int beside(int shelf) {
        return isNoShelf(shelf) ? UNKNOWN : floor(at(shelf), worth(at(shelf), false));
    }

    long norm(int shelf) {
        if (isNoShelf(shelf)) {
            return UNKNOWN;
        }
        // The product of both worths is a whole number; the decimal is nearer to it than a half.
        BigDecimal product = worth(at(shelf), true).multiply(worth(at(shelf), false));
        return product.setScale(0, java.math.RoundingMode.HALF_EVEN).longValueExact();
    }

    int feed(int sign) {
        if (sign != 46 && (sign < 48 || sign > 57) || sign == 46 && word.indexOf('.') >= 0) {
            return OUTSIDE;
        }
        if (word.length() == 60) {
            return FULL;
        }
        word += (char) sign;
        return word.length();
    }

    int clear() {
        int had = word.length();
        word = "";
        return had;
    }

    int normal(int k) {
        if (k < 0) {
            return OUTSIDE;
        }
        Pair worth = worthOfWord();
        if (worth == null) {
            return FULL;
        }
        List<Integer> all = written(worth).all();
        return k < all.size() ? all.get(k) : NONE;
    }

    int next(int k) {
        if (k < 0) {
            return OUTSIDE;
        }
        List<Integer> row = nextOfWord();
        return row == null || k >= row.size() ? NONE : row.get(k);
    }

    int one(int k) {
        if (k < 0) {
            return OUTSIDE;
        }
        // Behind the second figure ONE only repeats by twos, so a far one is like a near one.
        int near = k < 10 ? k : 8 + k % 2;
        return firstOfOne(near + 2).get(near);
    }

    int read(int shelf) {
        if (isNoShelf(shelf)) {
            return UNKNOWN;
        }
        Pair worth = worthOfWord();
        if (worth == null) {
            return FULL;
        }
        lay(shelf, worth);
        return shift();
    }

    int write(int shelf) {
        if (isNoShelf(shelf)) {
            return UNKNOWN;
        }
        if (sign(at(shelf)) < 0) {
            return NOT;
        }
        Written written = written(at(shelf));
        StringBuilder signs = new StringBuilder();
        written.ahead.forEach(signs::append);
        if (!written.behind.isEmpty()) {
            signs.append('.');
            written.behind.forEach(signs::append);
        }
        if (signs.length() > 60) {
            return FULL;
        }
        word = signs.toString();
        return word.length();
    }

    int keep(int i) {
        if (i < 0 || i > 1) {
            return UNKNOWN;
        }
        images[i] = now;
        past.clear();
        return 1;
    }

    int goBack(int i) {
        if (i < 0 || i > 1) {
            return UNKNOWN;
        }
        if (images[i] == null) {
            return NOT;
        }
        now = images[i];
        past.clear();
        return 1;
    }
}
