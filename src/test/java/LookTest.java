/** Promises 8, 11 and 12: look, count, fees. */
public final class LookTest {
    private static final long MOST_FEE = Due.MOST_FEE;
    private static final int[] FAR = {Integer.MIN_VALUE, -256, -10, -1, 10, 11, 64, 256, 65536, Integer.MAX_VALUE};

    public static void main(String[] args) {
        Due.says("Of the transaction with the name in hand: 0 fee, 1 size, 2 outputs, 3 how many keys it"
            + " spends, 4 parents, 5 children, 6 how many its family has, 7 the sum of its family's"
            + " fees, 8 of its sizes, 9 its coming",
            LookTest::lookTellsEverything);
        Due.says("6 how many its family has, 7 the sum of its family's fees, 8 of its sizes", LookTest::greatSums);
        Due.says("-1 if there is none in the pool", LookTest::lookAtNone);
        Due.says("or for another what", LookTest::lookForAnotherWhat);
        Due.says("0 how many are in the pool", LookTest::countOfThePool);
        Due.says("1 how many keys they spend", LookTest::countOfKeysSpent);
        Due.says("2 the sum of their sizes", LookTest::countOfSizes);
        Due.says("3 how many keys are in hand", LookTest::countOfKeysInHand);
        Due.says("4 how many came in all", LookTest::countOfComings);
        Due.says("-1 for another what", LookTest::countOfAnotherWhat);
        Due.says("The sum of the fees of all in the pool.", LookTest::feesOfThePool, LookTest::feesOfAFullPool);
        Due.end();
    }

    private static void lookTellsEverything() {
        PoolDesk x = new PoolDesk();
        Due.comes(x, 7, 3, 5, 1, 9, 9);
        Due.comes(x, 1, 100, 10, 3, 9, 0, 7, 0, 9, 1);
        Due.comes(x, 2, 20, 11, 2, 1, 0);
        Due.comes(x, 3, 3000, 12, 1, 1, 2);
        Due.comes(x, 4, 40000, 13, 0, 2, 0);
        Due.comes(x, 5, 500000, 14, 0, 9, 2);
        Due.looks(x, 1, 100, 10, 3, 3, 1, 2, 4, 43120, 46, 2);
        Due.looks(x, 2, 20, 11, 2, 1, 1, 1, 2, 40020, 24, 3);
        Due.looks(x, 4, 40000, 13, 0, 1, 1, 0, 1, 40000, 13, 5);
        Due.looks(x, 7, 3, 5, 1, 1, 0, 1, 5, 43123, 51, 1);
    }

    private static void greatSums() {
        PoolDesk x = new PoolDesk();
        Due.chain(x, 500, 1, 40, MOST_FEE, 2000);
        Due.looks(x, 1, MOST_FEE, 2000, 1, 1, 0, 1, 40, 40 * MOST_FEE, 80000, 1);
        Due.looks(x, 40, MOST_FEE, 2000, 1, 1, 1, 0, 1, MOST_FEE, 2000, 40);
    }

    private static void looksEmpty(PoolDesk x) {
        for (int what = 0; what <= 9; what++) {
            Due.is("look " + what, x.look(what), -1);
        }
        for (int what : FAR) {
            Due.is("look " + what, x.look(what), -1);
        }
    }

    private static void lookAtNone() {
        PoolDesk x = new PoolDesk();
        looksEmpty(x);
        Due.comes(x, 1, 1, 1, 1, 9, 0);
        looksEmpty(Due.named(x, 9));
        x.name(1, 1, 0, 0);
        looksEmpty(x);
        Due.is("take", Due.named(x, 1).take(), true);
        looksEmpty(x);
        Due.is("not let in", Due.enter(x, 2, 1, 1, 1, 2, 0), 4);
        looksEmpty(x);
    }

    private static void lookForAnotherWhat() {
        PoolDesk x = new PoolDesk();
        Due.comes(x, 1, 1, 1, 8, 9, 0);
        for (int what : FAR) {
            Due.is("look " + what, x.look(what), -1);
        }
        Due.is("the last that there is", x.look(9), 1);
        Due.is("the first that there is", x.look(0), 1);
    }

    private static void countOfThePool() {
        PoolDesk x = new PoolDesk();
        Due.is("none", x.count(0), 0);
        for (int n = 1; n <= 40; n++) {
            Due.comes(x, n, 1, 1, 1, 100 + n, 0);
            Due.is("count", x.count(0), n);
        }
        Due.is("one too many", Due.enter(x, 41, 1, 1, 1, 99, 0), 5);
        Due.is("count", x.count(0), 40);
        Due.is("take", Due.named(x, 1).take(), true);
        Due.is("count", x.count(0), 39);
    }

    private static void countOfKeysSpent() {
        PoolDesk x = new PoolDesk();
        Due.comes(x, 1, 1, 1, 2, 9, 0, 9, 1, 9, 2);
        Due.comes(x, 2, 1, 1, 2, 1, 0, 1, 1);
        Due.tell(x, 8, 0);
        Due.is("of both", x.count(1), 5);
        Due.is("take 1", Due.named(x, 1).take(), true);
        Due.is("of one", x.count(1), 2);
        Due.is("drop 2", Due.named(x, 2).drop(), 1);
        Due.is("of none", x.count(1), 0);
        PoolDesk y = new PoolDesk();
        for (int n = 0; n < 40; n++) {
            Due.comes(y, n + 1, 1, 1, 1, 100 + n, 0, 100 + n, 1, 100 + n, 2);
        }
        Due.is("of forty", y.count(1), 120);
    }

    private static void countOfSizes() {
        PoolDesk x = new PoolDesk();
        Due.fill(x, 100, 40, 1, 2000);
        Due.is("of forty", x.count(2), 80000);
        Due.is("drop one", x.drop(), 1);
        Due.is("of 39", x.count(2), 78000);
        Due.comes(x, 1, 1, 1, 1, 9, 0);
        Due.is("with a small one", x.count(2), 78001);
    }

    private static void countOfKeysInHand() {
        PoolDesk x = new PoolDesk();
        for (int k = 0; k < 8; k++) {
            Due.is("keys in hand", x.count(3), k);
            Due.tell(x, 9, k);
        }
        Due.is("a ninth", x.spend(8), false);
        Due.is("keys in hand", x.count(3), 8);
        Due.is("enter", Due.named(x, 1).enter(1, 1, 1), 0);
        Due.is("keys in hand after", x.count(3), 0);
    }

    // One that goes at once has come, too: the document lets it come into the pool before it goes.
    private static void countOfComings() {
        PoolDesk x = new PoolDesk();
        Due.fill(x, 100, 40, 10, 10);
        Due.is("came", x.count(4), 40);
        Due.is("take", x.take(), true);
        Due.is("drop", Due.named(x, 100).drop(), 1);
        Due.is("those that left have come", x.count(4), 40);
        Due.is("not let in", Due.enter(x, 101, 1, 1, 1, 9, 0), 1);
        Due.is("it has not come", x.count(4), 40);
        Due.fill(x, 200, 2, 10, 10);
        Due.is("goes at once", Due.enter(x, 300, 0, 10, 1, 9, 0), 5);
        Due.is("came in all", x.count(4), 43);
    }

    private static void countOfAnotherWhat() {
        PoolDesk x = Due.diamond();
        for (int what : FAR) {
            Due.is("count " + what, x.count(what), -1);
        }
        for (int what = 5; what <= 9; what++) {
            Due.is("count " + what, x.count(what), -1);
        }
    }

    private static void feesOfThePool() {
        PoolDesk x = new PoolDesk();
        Due.is("of none", x.fees(), 0);
        Due.comes(x, 1, 0, 1, 1, 9, 0);
        Due.is("of one that pays nothing", x.fees(), 0);
        Due.comes(x, 2, 200, 1, 1, 1, 0);
        Due.comes(x, 3, 3, 1, 1, 2, 0);
        Due.is("of three", x.fees(), 203);
        Due.is("not let in", Due.enter(x, 2, 50, 1, 1, 9, 1), 1);
        Due.is("still of three", x.fees(), 203);
        Due.is("take 2", Due.named(x, 2).take(), true);
        Due.is("of two", x.fees(), 3);
        Due.is("drop 3", Due.named(x, 3).drop(), 1);
        Due.is("of one", x.fees(), 0);
    }

    private static void feesOfAFullPool() {
        PoolDesk x = new PoolDesk();
        Due.fill(x, 100, 40, MOST_FEE, 1);
        Due.is("of forty", x.fees(), 40 * MOST_FEE);
        Due.is("goes at once", Due.enter(x, 1, MOST_FEE, 2, 1, 9, 0), 5);
        Due.is("still of forty", x.fees(), 40 * MOST_FEE);
    }
}
