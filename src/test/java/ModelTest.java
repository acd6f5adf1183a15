import java.util.Random;

/** All promises at once: many runs of up to 512 calls, each answer compared with PoolModel's. */
public final class ModelTest {
    private static final int RUNS = 1500;
    private static final int CALLS = 512;
    private static final long MOST_FEE = 2_100_000_000_000_000L;
    private static final long[] ODD_FEES = {-1, MOST_FEE + 1, Long.MIN_VALUE, Long.MAX_VALUE};
    private static final int[] ODD = {Integer.MIN_VALUE, -2, -1, 0, 8, 9, 40, 2001, Integer.MAX_VALUE};

    private final PoolDesk desk = new PoolDesk();
    private final PoolModel model = new PoolModel();
    private final Random random;
    private final String run;
    private final int names;
    private final int feeKind;
    private final int leaving;
    private int calls = 0;

    private ModelTest(int seed) {
        random = new Random(seed);
        run = "run " + seed + ", call ";
        names = new int[] {6, 12, 30, 60, 200}[random.nextInt(5)];
        feeKind = random.nextInt(3);
        leaving = new int[] {2, 5, 20}[random.nextInt(3)];
    }

    public static void main(String[] args) {
        int[] answers = new int[6];
        for (int seed = 1; seed <= RUNS; seed++) {
            new ModelTest(seed).play(answers);
        }
        for (int answer = 0; answer < answers.length; answer++) {
            Due.is("enough runs met answer " + answer, answers[answer] >= 500, true);
        }
        Due.end();
    }

    private void play(int[] answers) {
        while (calls < CALLS - 20) {
            int dice = random.nextInt(100);
            if (dice < 75) {
                int answer = enterOne();
                if (answer >= 0) {
                    answers[answer]++;
                }
            } else if (dice < 75 + leaving) {
                leave();
            } else {
                ask();
            }
        }
    }

    private int same(String call, long got, long want) {
        calls++;
        Due.is(run + calls + ": " + call, got, want);
        return (int) got;
    }

    private void hold(int n) {
        // Names that differ in one of the four numbers only.
        long v = n / 4 + 1;
        long[] w = new long[4];
        w[n % 4] = n % 3 == 0 ? -v : v;
        desk.name(w[0], w[1], w[2], w[3]);
        model.name(w[0], w[1], w[2], w[3]);
        calls++;
    }

    private int enterOne() {
        int keys = random.nextInt(12) == 0 ? random.nextInt(10) : 1 + random.nextInt(2);
        int own = random.nextInt(names);
        for (int k = 0; k < keys; k++) {
            // Keys of names that never enter keep some transactions free of parents.
            hold(random.nextInt(3) == 0 ? random.nextInt(names) : names + random.nextInt(400));
            int index = random.nextInt(30) == 0 ? odd() : random.nextInt(4);
            same("spend " + index, desk.spend(index) ? 1 : 0, model.spend(index) ? 1 : 0);
        }
        hold(own);
        boolean wild = random.nextInt(30) == 0;
        long fee = wild && random.nextBoolean() ? ODD_FEES[random.nextInt(ODD_FEES.length)] : fee();
        int size = wild && random.nextBoolean() ? odd() : 1 + random.nextInt(feeKind == 0 ? 5 : 2000);
        int outputs = wild && random.nextBoolean() ? odd() : random.nextInt(6) == 0 ? random.nextInt(9) : 4;
        return same("enter " + fee + " " + size + " " + outputs,
            desk.enter(fee, size, outputs), model.enter(fee, size, outputs));
    }

    private long fee() {
        return switch (feeKind) {
            case 0 -> random.nextInt(6);
            case 1 -> random.nextInt(100_000);
            default -> MOST_FEE - random.nextInt(3);
        };
    }

    private int odd() {
        return ODD[random.nextInt(ODD.length)];
    }

    private void leave() {
        hold(random.nextInt(names));
        switch (random.nextInt(4)) {
            case 0 -> same("drop", desk.drop(), model.drop());
            case 1 -> {
                hold(random.nextInt(names + 400));
                int index = random.nextInt(20) == 0 ? odd() : random.nextInt(4);
                same("strike " + index, desk.strike(index), model.strike(index));
            }
            default -> same("take", desk.take() ? 1 : 0, model.take() ? 1 : 0);
        }
    }

    private void ask() {
        int what = random.nextInt(20) == 0 ? odd() : random.nextInt(10);
        switch (random.nextInt(5)) {
            case 0, 1 -> {
                hold(random.nextInt(names));
                same("look " + what, desk.look(what), model.look(what));
            }
            case 2 -> {
                int size = random.nextInt(10) == 0 ? odd() : random.nextInt(feeKind == 0 ? 120 : 40_000);
                same("order " + size, desk.order(size), model.order(size));
                readRow();
            }
            case 3 -> same("fees", desk.fees(), model.fees());
            default -> same("count " + what % 5, desk.count(what % 5), model.count(what % 5));
        }
    }

    private void readRow() {
        for (int n = 0; n < 8; n++) {
            int k = random.nextInt(20) == 0 ? odd() : random.nextInt(12);
            int w = random.nextInt(20) == 0 ? odd() : random.nextInt(4);
            same("row " + k + " " + w, desk.row(k, w), model.row(k, w));
        }
    }
}
