/** Promises 9 and 10: order and row. */
public final class OrderTest {
    private static final long MOST_FEE = 2_100_000_000_000_000L;

    public static void main(String[] args) {
        greatestRateFirst();
        firstOfLikeOnes();
        parentsBeforeChildren();
        ownRateCountsNotTheFamilys();
        sizeIsKept();
        smallerOnesFillTheRest();
        sizesOfAllKinds();
        rateIsExact();
        orderChangesNothingElse();
        rowOutlastsThePool();
        rowOutsideIsZero();
        fortyInARow();
        Due.end();
    }

    private static void rows(PoolDesk x, int size, long... want) {
        Due.is("order " + size, x.order(size), want.length);
        for (int k = 0; k < want.length; k++) {
            Due.is("row " + k, x.row(k, 0), want[k]);
        }
        Due.is("behind the row", x.row(want.length, 0), 0);
    }

    private static void greatestRateFirst() {
        PoolDesk x = new PoolDesk();
        Due.comes(x, 1, 10, 10, 1, 9, 0);
        Due.comes(x, 2, 30, 20, 1, 9, 1);
        Due.comes(x, 3, 5, 1, 1, 9, 2);
        Due.comes(x, 4, 0, 1, 1, 9, 3);
        rows(x, 1000, 3, 2, 1, 4);
    }

    private static void firstOfLikeOnes() {
        PoolDesk x = new PoolDesk();
        Due.comes(x, 6, 1, 2, 1, 9, 0);
        Due.comes(x, 5, 10, 20, 1, 9, 1);
        Due.comes(x, 4, 5, 10, 1, 9, 2);
        rows(x, 1000, 6, 5, 4);
        Due.is("take 6", Due.named(x, 6).take(), true);
        Due.comes(x, 7, 3, 6, 1, 9, 3);
        rows(x, 1000, 5, 4, 7);
    }

    private static void parentsBeforeChildren() {
        PoolDesk x = new PoolDesk();
        Due.comes(x, 4, 900, 1, 1, 2, 0, 3, 0);
        Due.comes(x, 2, 10, 10, 1, 1, 0);
        Due.comes(x, 3, 20, 10, 1, 1, 1);
        Due.comes(x, 1, 1, 10, 2, 9, 0);
        Due.comes(x, 5, 15, 10, 1, 9, 1);
        rows(x, 1000, 5, 1, 3, 2, 4);
        Due.is("take 1", Due.named(x, 1).take(), true);
        rows(x, 1000, 3, 5, 2, 4);
    }

    private static void ownRateCountsNotTheFamilys() {
        PoolDesk x = new PoolDesk();
        Due.comes(x, 1, 1, 10, 1, 9, 0);
        Due.comes(x, 2, 1000, 10, 1, 1, 0);
        Due.comes(x, 3, 2, 10, 1, 9, 1);
        rows(x, 10, 3);
        rows(x, 30, 3, 1, 2);
    }

    private static void sizeIsKept() {
        PoolDesk x = new PoolDesk();
        Due.comes(x, 1, 30, 10, 1, 9, 0);
        Due.comes(x, 2, 20, 10, 1, 9, 1);
        rows(x, 9);
        rows(x, 10, 1);
        rows(x, 19, 1);
        rows(x, 20, 1, 2);
    }

    private static void smallerOnesFillTheRest() {
        PoolDesk x = new PoolDesk();
        Due.comes(x, 1, 300, 100, 1, 9, 0);
        Due.comes(x, 2, 200, 100, 1, 9, 1);
        Due.comes(x, 3, 10, 10, 1, 9, 2);
        Due.comes(x, 4, 1000, 5, 1, 2, 0);
        rows(x, 150, 1, 3);
        rows(x, 99, 3);
    }

    private static void sizesOfAllKinds() {
        PoolDesk x = new PoolDesk();
        Due.comes(x, 1, 0, 1, 1, 9, 0);
        rows(x, 0);
        rows(x, -1);
        rows(x, Integer.MIN_VALUE);
        rows(x, Integer.MAX_VALUE, 1);
        rows(x, 1, 1);
    }

    // The rates of 1 and 2 differ, but a double can't tell them apart.
    private static void rateIsExact() {
        long whole = 1_050_000_000_000L;
        PoolDesk x = new PoolDesk();
        Due.comes(x, 1, 1999 * whole - 1, 1999, 1, 9, 0);
        Due.comes(x, 2, 2000 * whole - 1, 2000, 1, 9, 1);
        Due.comes(x, 3, MOST_FEE, 2000, 1, 9, 2);
        Due.comes(x, 4, MOST_FEE, 1999, 1, 9, 3);
        rows(x, 10000, 4, 3, 2, 1);
    }

    private static void orderChangesNothingElse() {
        PoolDesk x = new PoolDesk();
        Due.comes(x, 1, 10, 10, 1, 9, 0);
        Due.tell(x, 9, 1);
        rows(x, 100, 1);
        Due.is("count", x.count(0), 1);
        Due.is("keys in hand", x.count(3), 1);
        Due.is("fees", x.fees(), 10);
        rows(x, 100, 1);
    }

    private static void rowOutlastsThePool() {
        PoolDesk x = new PoolDesk();
        for (int n = 1; n <= 2; n++) {
            Due.tell(x, 9, n);
            x.name(n, -n, n + 10, Long.MIN_VALUE + n);
            Due.is("enter " + n, x.enter(10 - n, 10, 0), 0);
        }
        Due.is("order", x.order(100), 2);
        Due.is("strike", Due.named(x, 9).strike(1), 1);
        Due.is("strike", Due.named(x, 9).strike(2), 1);
        Due.comes(x, 50, 1, 1, 1, 9, 0);
        Due.comes(x, 51, 1, 1, 1, 9, 1);
        for (int n = 1; n <= 2; n++) {
            Due.is("word 0", x.row(n - 1, 0), n);
            Due.is("word 1", x.row(n - 1, 1), -n);
            Due.is("word 2", x.row(n - 1, 2), n + 10);
            Due.is("word 3", x.row(n - 1, 3), Long.MIN_VALUE + n);
        }
        rows(x, 100, 50, 51);
        rows(x, 0);
    }

    private static void rowOutsideIsZero() {
        PoolDesk x = new PoolDesk();
        int[] far = {Integer.MIN_VALUE, -1, 4, 5, 40, 41, 164, 1 << 30, Integer.MAX_VALUE};
        for (int n = 0; n < 4; n++) {
            Due.tell(x, 9, n);
            x.name(n + 1, n + 1, n + 1, n + 1);
            Due.is("enter", x.enter(1, 1, 1), 0);
        }
        Due.is("order", x.order(100), 4);
        for (int f : far) {
            Due.is("row " + f + " 0", x.row(f, 0), 0);
            Due.is("row 0 " + f, x.row(0, f), 0);
            Due.is("row 1 " + f, x.row(1, f), 0);
            Due.is("row " + f + " " + f, x.row(f, f), 0);
        }
        Due.is("row 1 -4", x.row(1, -4), 0);
        Due.is("row -1 4", x.row(-1, 4), 0);
    }

    private static void fortyInARow() {
        PoolDesk x = new PoolDesk();
        Due.fill(x, 100, 40, MOST_FEE, 2000);
        Due.is("order", x.order(80000), 40);
        Due.is("the last", x.row(39, 0), 139);
        Due.is("order of one less", x.order(79999), 39);
        Due.is("the last is gone", x.row(39, 0), 0);
    }
}
