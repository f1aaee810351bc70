import java.math.BigDecimal;
import java.math.MathContext;
import java.math.RoundingMode;
import java.util.ArrayList;
import java.util.List;

/** All bases that can be, and what lies nearest to them. */
final class Bases {
    private static final MathContext EXACT_ENOUGH = new MathContext(80);

    private Bases() {
    }

    /** Each a with each b, written out by the document's own words. */
    static List<int[]> all() {
        List<int[]> all = new ArrayList<>();
        for (int a = 1; a <= 9; a++) {
            for (int b = 1; b <= a; b++) {
                all.add(new int[] {a, b});
            }
            for (int b = -1; b >= 2 - a; b--) {
                all.add(new int[] {a, b});
            }
        }
        return all;
    }

    static RingBases in(int... base) {
        RingBases x = new RingBases();
        x.base(base[0], base[1]);
        return x;
    }

    static int top(int[] base) {
        return base[1] > 0 ? base[0] : base[0] - 1;
    }

    static String name(int[] base) {
        return " in " + base[0] + ", " + base[1];
    }

    static BigDecimal worth(int[] base) {
        BigDecimal apart = BigDecimal.valueOf(base[0] * base[0] + 4 * base[1]).sqrt(EXACT_ENOUGH);
        return apart.add(BigDecimal.valueOf(base[0])).divide(BigDecimal.valueOf(2));
    }

    /** Wholes p and q, of which p by q is nearer to the base than all with a lesser q: each p, q up to the bound. */
    static List<int[]> nearest(int[] base, int bound) {
        List<int[]> found = new ArrayList<>();
        BigDecimal left = worth(base);
        long p = 1;
        long q = 0;
        long formerP = 0;
        long formerQ = 1;
        while (true) {
            BigDecimal whole = left.setScale(0, RoundingMode.FLOOR);
            long nextP = whole.longValueExact() * p + formerP;
            long nextQ = whole.longValueExact() * q + formerQ;
            if (nextP > bound || nextQ > bound) {
                return found;
            }
            formerP = p;
            formerQ = q;
            p = nextP;
            q = nextQ;
            found.add(new int[] {(int) p, (int) q});
            left = BigDecimal.ONE.divide(left.subtract(whole), EXACT_ENOUGH);
        }
    }

    /** 1 if p is more than q times the base, else -1. */
    static int side(int[] base, int[] near) {
        return BigDecimal.valueOf(near[0]).compareTo(worth(base).multiply(BigDecimal.valueOf(near[1])));
    }

    /** The least number above 0 that is found with m and n up to the bound. */
    static int[] tiny(int[] base, int bound) {
        List<int[]> near = nearest(base, bound);
        int[] last = near.get(near.size() - 1);
        int side = side(base, last);
        return new int[] {side * last[0], -side * last[1]};
    }
}
