import java.util.Random;

/** No call throws or hangs, for any arguments in any state, even behind the 512th call. */
public final class NeverThrowsTest {
    private static final long[] LONGS = {Long.MIN_VALUE, Integer.MIN_VALUE, -1, 0, 1, 2, 3, 8, 9, 40, 41, 2000,
        2001, 2_100_000_000_000_000L, Integer.MAX_VALUE, Long.MAX_VALUE};

    public static void main(String[] args) {
        Random random = new Random(7);
        for (int run = 0; run < 200; run++) {
            PoolDesk x = new PoolDesk();
            for (int call = 0; call < 3000; call++) {
                anyCall(x, random);
            }
            Due.is("at most 40 in the pool", x.count(0) >= 0 && x.count(0) <= 40, true);
        }
        Due.end();
    }

    private static long some(Random random) {
        return LONGS[random.nextInt(LONGS.length)];
    }

    private static void anyCall(PoolDesk x, Random random) {
        int n = (int) some(random);
        int m = (int) some(random);
        switch (random.nextInt(16)) {
            case 0 -> x.take();
            case 1 -> x.drop();
            case 2 -> x.strike(n);
            case 3 -> x.look(n);
            case 4 -> x.order(n);
            case 5 -> x.row(n, m);
            case 6 -> x.count(n);
            case 7 -> x.fees();
            case 8 -> x.enter(some(random), n, m);
            case 9, 10 -> x.enter(random.nextInt(9), 1 + random.nextInt(9), 8);
            case 11, 12, 13 -> x.spend(n);
            default -> x.name(random.nextInt(80), 0, 0, some(random));
        }
    }
}
