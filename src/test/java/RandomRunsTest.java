import java.util.Random;

/**
 * Runs of 512 calls by chance, the same ones on the class and on the model; the seeds are told, so
 * each run can be had again. With two numbers as arguments: the first seed and how many runs.
 */
public final class RandomRunsTest {
    private static final int[] EDGES = {0, 1, -1, 999999, -999999, 1000000, -1000000, 999998,
        Integer.MAX_VALUE, Integer.MIN_VALUE, 832040, -514229, 514229, -317811};

    private final Due due;
    private final Random random;
    private final RingBases it = new RingBases();
    private final Model model = new Model();
    private final String run;

    private RandomRunsTest(Due due, long seed) {
        this.due = due;
        this.random = new Random(seed);
        this.run = "seed " + seed;
    }

    public static void main(String[] args) {
        long first = args.length > 0 ? Long.parseLong(args[0]) : 1;
        long runs = args.length > 1 ? Long.parseLong(args[1]) : 60;
        Due due = new Due("RandomRunsTest");
        for (long seed = first; seed < first + runs && due.isAllRight(); seed++) {
            RandomRunsTest test = new RandomRunsTest(due, seed);
            for (int call = 0; call < 512 && due.isAllRight(); call++) {
                test.callOne(call);
            }
        }
        due.finish();
    }

    private int shelfOrNot() {
        int r = random.nextInt(60);
        return r == 0 ? -1 : r == 1 ? 4 : r == 2 ? EDGES[random.nextInt(EDGES.length)] : random.nextInt(4);
    }

    private int part() {
        switch (random.nextInt(5)) {
            case 0:
                return EDGES[random.nextInt(EDGES.length)];
            case 1:
                return random.nextInt(1999999) - 999999;
            case 2:
                return random.nextInt(2001) - 1000;
            default:
                return random.nextInt(21) - 10;
        }
    }

    private int among(int least, int greatest) {
        if (random.nextInt(40) == 0) {
            return EDGES[random.nextInt(EDGES.length)];
        }
        return least + random.nextInt(greatest - least + 1);
    }

    private int sign() {
        if (random.nextInt(8) == 0) {
            return 44 + random.nextInt(16);
        }
        // Figures near those of ONE make words that are nearly well, and badly only far behind.
        return 48 + (random.nextInt(3) == 0 ? random.nextInt(10) : model.one(random.nextInt(4)));
    }

    private void is(int call, String what, long got, long want) {
        due.is(run + ", call " + call + ", " + what, got, want);
    }

    private void callOne(int call) {
        int kind = random.nextInt(40);
        if (kind < 16) {
            change(call, kind);
        } else if (kind < 28) {
            askNumbers(call, kind);
        } else {
            askWords(call, kind);
        }
    }

    private void change(int call, int kind) {
        int shelf = shelfOrNot();
        if (kind == 0) {
            int a = random.nextInt(12) - 1;
            int b = among(-9, 10);
            is(call, "base(" + a + ", " + b + ")", it.base(a, b), model.base(a, b));
        } else if (kind < 3) {
            int m = part();
            int n = part();
            is(call, "put(" + shelf + ", " + m + ", " + n + ")", it.put(shelf, m, n), model.put(shelf, m, n));
        } else if (kind < 5) {
            int what = among(-1, 4);
            int one = shelfOrNot();
            int other = shelfOrNot();
            is(call, "deed(" + shelf + ", " + what + ", " + one + ", " + other + ")",
                    it.deed(shelf, what, one, other), model.deed(shelf, what, one, other));
        } else if (kind < 6) {
            int seed = among(0, 999999);
            is(call, "drift(" + shelf + ", " + seed + ")", it.drift(shelf, seed), model.drift(shelf, seed));
        } else if (kind < 7) {
            is(call, "undo()", it.undo(), model.undo());
        } else if (kind < 8) {
            is(call, "read(" + shelf + ")", it.read(shelf), model.read(shelf));
        } else if (kind < 9) {
            is(call, "write(" + shelf + ")", it.write(shelf), model.write(shelf));
        } else if (kind < 10) {
            seldom(call);
        } else {
            int sign = sign();
            is(call, "feed(" + sign + ")", it.feed(sign), model.feed(sign));
        }
    }

    private void seldom(int call) {
        int i = among(-1, 2);
        switch (random.nextInt(4)) {
            case 0:
                is(call, "keep(" + i + ")", it.keep(i), model.keep(i));
                break;
            case 1:
                is(call, "goBack(" + i + ")", it.goBack(i), model.goBack(i));
                break;
            default:
                is(call, "clear()", it.clear(), model.clear());
                break;
        }
    }

    private void askNumbers(int call, int kind) {
        int shelf = shelfOrNot();
        if (kind < 18) {
            int what = among(-1, 12);
            is(call, "told(" + what + ")", it.told(what), model.told(what));
        } else if (kind < 21) {
            int what = among(-1, 9);
            is(call, "shelf(" + shelf + ", " + what + ")", it.shelf(shelf, what), model.shelf(shelf, what));
        } else if (kind < 24) {
            int place = random.nextInt(6) == 0 ? among(-42, 62) : among(-41, 12);
            is(call, "figure(" + shelf + ", " + place + ")", it.figure(shelf, place), model.figure(shelf, place));
        } else if (kind < 26) {
            int other = shelfOrNot();
            is(call, "compare(" + shelf + ", " + other + ")", it.compare(shelf, other), model.compare(shelf, other));
        } else if (kind < 27) {
            is(call, "beside(" + shelf + ")", it.beside(shelf), model.beside(shelf));
        } else {
            is(call, "norm(" + shelf + ")", it.norm(shelf), model.norm(shelf));
        }
    }

    private void askWords(int call, int kind) {
        if (kind < 32) {
            int what = 4 + random.nextInt(8);
            is(call, "told(" + what + ")", it.told(what), model.told(what));
        } else if (kind < 35) {
            int k = among(-1, 72);
            is(call, "normal(" + k + ")", it.normal(k), model.normal(k));
        } else if (kind < 38) {
            int k = among(-1, Math.max(2, model.told(4) + 1));
            is(call, "next(" + k + ")", it.next(k), model.next(k));
        } else {
            int k = among(-1, 70);
            is(call, "one(" + k + ")", it.one(k), model.one(k));
        }
    }
}
