/** Promises 9 and 10: order and row. */
public final class OrderTest {
    private static final long MOST_FEE = Due.MOST_FEE;

    public static void main(String[] args) {
        Due.says("of those not taken whose parents are all taken",
            OrderTest::parentsBeforeChildren, OrderTest::allParentsAreNeeded, OrderTest::onlyParentsInThePoolCount,
            OrderTest::childIsNextOnceItIsOpen);
        Due.says("with whom the sizes of those taken come to at most that size",
            OrderTest::sizeIsKept, OrderTest::smallerOnesFillTheRest, OrderTest::sizesOfAllKinds);
        Due.says("the one with the greatest rate",
            OrderTest::greatestRateFirst, OrderTest::lateOnesThatPayMoreGoFirst,
            OrderTest::ownRateCountsNotTheFamilys, OrderTest::rateIsExact);
        Due.says("(of like ones that which came first) is taken", OrderTest::firstOfLikeOnes);
        Due.says("until there is none", OrderTest::emptyPool, OrderTest::thoseThatPayNothingAreTakenToo);
        Due.says("How many were taken: the ROW", OrderTest::fortyInARow);
        Due.says("The pool is put in order for a block of a size", OrderTest::orderChangesNothingElse);
        Due.says("Number w (0 .. 3) of the name of one in the row", OrderTest::allFourNumbers);
        Due.says("k from 0 on", OrderTest::fromTheFirstToTheLast);
        Due.says("as it was put in order last", OrderTest::rowIsTheLastOrders);
        Due.says("(whether it is still in the pool or not)", OrderTest::rowOutlastsThePool);
        Due.says("0 if there is none", OrderTest::rowOutsideIsZero, OrderTest::noRowAtFirst);
        Due.end();
    }

    private static void rows(PoolDesk x, int size, long... want) {
        Due.is("order " + size, x.order(size), want.length);
        for (int k = 0; k < want.length; k++) {
            Due.is("row " + k, x.row(k, 0), want[k]);
        }
        Due.is("behind the row", x.row(want.length, 0), 0);
    }

    private static void parentsBeforeChildren() {
        PoolDesk x = new PoolDesk();
        Due.comes(x, 4, 900, 1, 1, 2, 0, 3, 0);
        Due.comes(x, 2, 10, 10, 1, 1, 0);
        Due.comes(x, 3, 20, 10, 1, 1, 1);
        Due.comes(x, 1, 1, 10, 2, 9, 0);
        Due.comes(x, 5, 15, 10, 1, 9, 1);
        rows(x, 1000, 5, 1, 3, 2, 4);
    }

    private static void allParentsAreNeeded() {
        PoolDesk x = new PoolDesk();
        Due.comes(x, 1, 100, 10, 1, 9, 0);
        Due.comes(x, 2, 90, 30, 1, 9, 1);
        Due.comes(x, 3, 1000, 1, 1, 1, 0, 2, 0);
        Due.comes(x, 4, 1, 5, 1, 3, 0);
        rows(x, 39, 1);
        rows(x, 40, 1, 2);
        rows(x, 41, 1, 2, 3);
        rows(x, 45, 1, 2, 3);
        rows(x, 46, 1, 2, 3, 4);
    }

    private static void onlyParentsInThePoolCount() {
        PoolDesk x = new PoolDesk();
        Due.comes(x, 2, 10, 10, 1, 1, 0);
        Due.comes(x, 3, 5, 10, 1, 2, 0);
        rows(x, 100, 2, 3);
        Due.comes(x, 1, 1, 200, 1, 9, 0);
        rows(x, 100);
        rows(x, 220, 1, 2, 3);
        Due.is("take 1", Due.named(x, 1).take(), true);
        rows(x, 100, 2, 3);
        Due.is("take 2", Due.named(x, 2).take(), true);
        rows(x, 100, 3);
    }

    private static void childIsNextOnceItIsOpen() {
        PoolDesk x = new PoolDesk();
        Due.comes(x, 1, 30, 10, 2, 9, 0);
        Due.comes(x, 2, 20, 10, 1, 9, 1);
        Due.comes(x, 3, 25, 10, 1, 1, 0);
        Due.comes(x, 4, 15, 10, 1, 1, 1);
        rows(x, 100, 1, 3, 2, 4);
    }

    private static void sizeIsKept() {
        PoolDesk x = new PoolDesk();
        Due.comes(x, 1, 30, 10, 1, 9, 0);
        Due.comes(x, 2, 20, 10, 1, 9, 1);
        rows(x, 9);
        rows(x, 10, 1);
        rows(x, 19, 1);
        rows(x, 20, 1, 2);
        rows(x, 21, 1, 2);
    }

    private static void smallerOnesFillTheRest() {
        PoolDesk x = new PoolDesk();
        Due.comes(x, 1, 300, 100, 1, 9, 0);
        Due.comes(x, 2, 200, 100, 1, 9, 1);
        Due.comes(x, 3, 10, 10, 1, 9, 2);
        Due.comes(x, 4, 1000, 5, 1, 2, 0);
        rows(x, 150, 1, 3);
        rows(x, 99, 3);
        rows(x, 205, 1, 2, 4);
    }

    private static void sizesOfAllKinds() {
        PoolDesk x = new PoolDesk();
        Due.comes(x, 1, 0, 1, 1, 9, 0);
        Due.comes(x, 2, 0, 2000, 1, 9, 1);
        rows(x, 0);
        rows(x, 1, 1);
        rows(x, -1);
        rows(x, 2000, 1);
        rows(x, Integer.MIN_VALUE);
        rows(x, 2001, 1, 2);
        rows(x, -2001);
        rows(x, Integer.MAX_VALUE, 1, 2);
    }

    private static void greatestRateFirst() {
        PoolDesk x = new PoolDesk();
        Due.comes(x, 1, 10, 10, 1, 9, 0);
        Due.comes(x, 2, 30, 20, 1, 9, 1);
        Due.comes(x, 3, 5, 1, 1, 9, 2);
        Due.comes(x, 4, 0, 1, 1, 9, 3);
        Due.comes(x, 5, 31, 30, 1, 9, 4);
        rows(x, 1000, 3, 2, 5, 1, 4);
    }

    // The late ones come when others have left, so that they may stand where early ones stood.
    private static void lateOnesThatPayMoreGoFirst() {
        PoolDesk x = new PoolDesk();
        Due.comes(x, 1, 50, 10, 1, 9, 0);
        Due.comes(x, 2, 40, 10, 1, 9, 1);
        Due.comes(x, 3, 5, 10, 1, 9, 2);
        Due.comes(x, 4, 6, 10, 1, 9, 3);
        Due.is("take 1", Due.named(x, 1).take(), true);
        Due.is("take 2", Due.named(x, 2).take(), true);
        Due.comes(x, 5, 20, 10, 1, 9, 0);
        Due.comes(x, 6, 30, 10, 1, 9, 1);
        rows(x, 100, 6, 5, 4, 3);
        rows(x, 10, 6);
    }

    private static void ownRateCountsNotTheFamilys() {
        PoolDesk x = new PoolDesk();
        Due.comes(x, 1, 1, 10, 1, 9, 0);
        Due.comes(x, 2, 1000, 10, 1, 1, 0);
        Due.comes(x, 3, 2, 10, 1, 9, 1);
        rows(x, 10, 3);
        rows(x, 30, 3, 1, 2);
    }

    // The rates of 1 and 2 differ, but a double can't tell them apart.
    private static void rateIsExact() {
        long whole = 1_050_000_000_000L;
        PoolDesk x = new PoolDesk();
        Due.comes(x, 1, 1999 * whole - 1, 1999, 1, 9, 0);
        Due.comes(x, 2, 2000 * whole - 1, 2000, 1, 9, 1);
        Due.comes(x, 3, MOST_FEE, 2000, 1, 9, 2);
        Due.comes(x, 4, MOST_FEE, 1999, 1, 9, 3);
        Due.comes(x, 5, 1, 2000, 1, 9, 4);
        Due.comes(x, 6, 1, 1999, 1, 9, 5);
        rows(x, 20000, 4, 3, 2, 1, 6, 5);
    }

    private static void firstOfLikeOnes() {
        PoolDesk x = new PoolDesk();
        Due.comes(x, 6, 1, 2, 1, 9, 0);
        Due.comes(x, 5, 10, 20, 1, 9, 1);
        Due.comes(x, 4, 5, 10, 1, 9, 2);
        rows(x, 1000, 6, 5, 4);
        Due.is("take 6", Due.named(x, 6).take(), true);
        Due.comes(x, 7, 3, 6, 1, 9, 3);
        rows(x, 1000, 5, 4, 7);
        Due.comes(x, 6, 50, 100, 1, 5, 0);
        rows(x, 1000, 5, 4, 7, 6);
    }

    private static void emptyPool() {
        PoolDesk x = new PoolDesk();
        rows(x, 2000);
        rows(x, Integer.MAX_VALUE);
        Due.comes(x, 1, 1, 1, 1, 9, 0);
        rows(x, 2000, 1);
        Due.is("drop", x.drop(), 1);
        rows(x, 2000);
    }

    private static void thoseThatPayNothingAreTakenToo() {
        PoolDesk x = new PoolDesk();
        Due.comes(x, 1, 0, 10, 1, 9, 0);
        Due.comes(x, 2, 0, 1, 1, 9, 1);
        Due.comes(x, 3, 1, 2000, 1, 2, 0);
        rows(x, 2011, 1, 2, 3);
        rows(x, 2010, 1, 2);
    }

    private static void fortyInARow() {
        PoolDesk x = new PoolDesk();
        Due.fill(x, 100, 40, MOST_FEE, 2000);
        Due.is("order", x.order(80000), 40);
        Due.is("the last", x.row(39, 0), 139);
        Due.is("behind it", x.row(40, 0), 0);
        Due.is("order of one less", x.order(79999), 39);
        Due.is("the last is gone", x.row(39, 0), 0);
        PoolDesk y = new PoolDesk();
        Due.chain(y, 500, 1, 40, 1, 1);
        Due.is("order of a chain", y.order(40), 40);
        Due.is("its last", y.row(39, 0), 40);
    }

    private static void orderChangesNothingElse() {
        PoolDesk x = new PoolDesk();
        Due.comes(x, 1, 10, 10, 1, 9, 0);
        Due.comes(x, 2, 10, 10, 1, 1, 0);
        Due.tell(x, 9, 1);
        Due.named(x, 1);
        rows(x, 100, 1, 2);
        Due.is("the name in hand", x.look(9), 1);
        Due.counts(x, 2, 2, 20, 1, 2);
        Due.is("fees", x.fees(), 20);
        Due.is("children", x.look(5), 1);
        rows(x, 100, 1, 2);
    }

    private static PoolDesk twoWithLongNames() {
        PoolDesk x = new PoolDesk();
        for (int n = 1; n <= 2; n++) {
            Due.tell(x, 9, n);
            x.name(n, -n, n + 10, Long.MIN_VALUE + n);
            Due.is("enter " + n, x.enter(10 - n, 10, 0), 0);
        }
        return x;
    }

    private static void readsLongNames(PoolDesk x) {
        for (int n = 1; n <= 2; n++) {
            Due.is("number 0", x.row(n - 1, 0), n);
            Due.is("number 1", x.row(n - 1, 1), -n);
            Due.is("number 2", x.row(n - 1, 2), n + 10);
            Due.is("number 3", x.row(n - 1, 3), Long.MIN_VALUE + n);
        }
    }

    private static void allFourNumbers() {
        PoolDesk x = twoWithLongNames();
        Due.is("order", x.order(100), 2);
        readsLongNames(x);
    }

    private static void fromTheFirstToTheLast() {
        PoolDesk x = new PoolDesk();
        for (int n = 0; n < 40; n++) {
            Due.comes(x, 100 + n, 100 - n, 1, 1, 9, n);
        }
        Due.is("order", x.order(40), 40);
        for (int k = 0; k < 40; k++) {
            Due.is("row " + k, x.row(k, 0), 100 + k);
        }
    }

    private static void rowIsTheLastOrders() {
        PoolDesk x = new PoolDesk();
        Due.comes(x, 1, 10, 10, 1, 9, 0);
        Due.comes(x, 2, 20, 20, 1, 9, 1);
        rows(x, 30, 1, 2);
        Due.comes(x, 3, 99, 1, 1, 9, 2);
        Due.is("the row does not follow the pool", x.row(0, 0), 1);
        Due.is("it is not longer", x.row(2, 0), 0);
        rows(x, 30, 3, 1);
        rows(x, 0);
        Due.is("nothing is left of the row", x.row(1, 0), 0);
        rows(x, 31, 3, 1, 2);
    }

    private static void rowOutlastsThePool() {
        PoolDesk x = twoWithLongNames();
        Due.is("order", x.order(100), 2);
        Due.is("strike", Due.named(x, 9).strike(1), 1);
        readsLongNames(x);
        Due.is("strike", Due.named(x, 9).strike(2), 1);
        Due.comes(x, 50, 1, 1, 1, 9, 0);
        Due.comes(x, 51, 1, 1, 1, 9, 1);
        readsLongNames(x);
        Due.is("take", x.take(), true);
        Due.is("drop", Due.named(x, 50).drop(), 1);
        readsLongNames(x);
    }

    private static void rowOutsideIsZero() {
        PoolDesk x = new PoolDesk();
        int[] far = {Integer.MIN_VALUE, -4, -1, 4, 5, 40, 41, 164, 256, 1 << 30, Integer.MAX_VALUE};
        for (int n = 0; n < 4; n++) {
            Due.tell(x, 9, n);
            x.name(n + 1, n + 1, n + 1, n + 1);
            Due.is("enter", x.enter(1, 1, 1), 0);
        }
        Due.is("order", x.order(100), 4);
        for (int f : far) {
            Due.is("row " + f + " 0", x.row(f, 0), 0);
            Due.is("row " + f + " 3", x.row(f, 3), 0);
            Due.is("row 0 " + f, x.row(0, f), 0);
            Due.is("row 1 " + f, x.row(1, f), 0);
            Due.is("row 3 " + f, x.row(3, f), 0);
            Due.is("row " + f + " " + f, x.row(f, f), 0);
        }
        Due.is("row -1 4", x.row(-1, 4), 0);
        Due.is("row 4 -1", x.row(4, -1), 0);
    }

    private static void noRowAtFirst() {
        PoolDesk x = twoWithLongNames();
        for (int k = 0; k <= 2; k++) {
            for (int w = 0; w < 4; w++) {
                Due.is("row " + k + " " + w, x.row(k, w), 0);
            }
        }
    }
}
