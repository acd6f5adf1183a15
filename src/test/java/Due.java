/** What the tests share: they compare answers, count the wrong ones, and enter transactions in one line. */
final class Due {
    private static int wrong = 0;

    private Due() {
    }

    static void is(String call, long got, long want) {
        if (got != want) {
            wrong++;
            System.out.println(call + " answered " + got + ", due is " + want);
        }
    }

    static void is(String call, boolean got, boolean want) {
        is(call, got ? 1 : 0, want ? 1 : 0);
    }

    static void end() {
        System.out.println(wrong == 0 ? "all answers are as due" : wrong + " answers are not as due");
        if (wrong != 0) {
            System.exit(1);
        }
    }

    /** The name in hand is n, 0, 0, 0. */
    static PoolDesk named(PoolDesk x, long n) {
        x.name(n, 0, 0, 0);
        return x;
    }

    /** Tells keys: pairs of a name's first number and an index. */
    static void tell(PoolDesk x, long... keys) {
        for (int k = 0; k + 1 < keys.length; k += 2) {
            is("spend " + keys[k] + ":" + keys[k + 1], named(x, keys[k]).spend((int) keys[k + 1]), true);
        }
    }

    /** Enters the transaction named own with these keys; own stays in hand. */
    static int enter(PoolDesk x, long own, long fee, int size, int outputs, long... keys) {
        tell(x, keys);
        return named(x, own).enter(fee, size, outputs);
    }

    static void comes(PoolDesk x, long own, long fee, int size, int outputs, long... keys) {
        is("enter " + own, enter(x, own, fee, size, outputs, keys), 0);
    }

    static boolean inPool(PoolDesk x, long own) {
        return named(x, own).look(0) >= 0;
    }

    /** Fills the pool with single ones, named from .. from + number - 1, that spend keys of nobody's. */
    static void fill(PoolDesk x, long from, int number, long fee, int size) {
        for (long own = from; own < from + number; own++) {
            comes(x, own, fee, size, 8, 1_000_000 + own, 0);
        }
    }
}
