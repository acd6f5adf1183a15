/** Promises 1 to 3, and what "Terms" says of names, keys and the hand. */
public final class HandTest {
    public static void main(String[] args) {
        Due.says("`PoolDesk()`: Nothing is in the pool", HandTest::newPoolIsEmpty);
        Due.says("no keys in hand", HandTest::newHandHasNoKeys);
        Due.says("at first there are none, and the name is all 0", HandTest::nameStartsAsZeros);
        Due.says("A NAME are four numbers of 64 bits", HandTest::everyBitOfANameCounts);
        Due.says("a KEY a name and an index", HandTest::everyPartOfAKeyCounts);
        Due.says("(an int)", HandTest::indexMayBeAnyInt);
        Due.says("The name IN HAND is told ahead of what is done with it", HandTest::lastNameToldCounts);
        Due.says("so are the keys of the next transaction", HandTest::keysWaitForEnter);
        Due.says(": The name in hand.", HandTest::nameStaysInHand);
        Due.says("One more key that the next transaction spends: the name in hand and an index: true",
            HandTest::keysKeepTheNamesTheyWereToldWith);
        Due.says("false if there are 8", HandTest::noNinthKey);
        Due.says("or this is one of them", HandTest::noKeyTwice, HandTest::onlyKeysInHandAreInTheWay);
        Due.says("All memory is the class's own.", HandTest::objectsShareNothing);
        Due.end();
    }

    private static void newPoolIsEmpty() {
        PoolDesk x = new PoolDesk();
        Due.counts(x, 0, 0, 0, 0, 0, -1);
        Due.is("fees", x.fees(), 0);
        for (int what = 0; what <= 9; what++) {
            Due.is("look " + what, x.look(what), -1);
        }
        Due.is("take", x.take(), false);
        Due.is("drop", x.drop(), 0);
        Due.is("strike", x.strike(0), 0);
        Due.is("row", x.row(0, 0), 0);
        Due.is("order", x.order(2000), 0);
        Due.is("row of nothing", x.row(0, 0), 0);
    }

    private static void newHandHasNoKeys() {
        PoolDesk x = new PoolDesk();
        Due.is("keys in hand", x.count(3), 0);
        Due.is("enter without keys", x.enter(1, 1, 1), -1);
        Due.is("a first key is new", x.spend(0), true);
    }

    private static void nameStartsAsZeros() {
        PoolDesk x = new PoolDesk();
        Due.is("spend of 0", x.spend(3), true);
        x.name(0, 0, 0, 0);
        Due.is("spend of 0 again", x.spend(3), false);
        Due.is("enter 1", Due.named(x, 1).enter(5, 6, 7), 0);
        Due.is("strike 0:3", Due.named(x, 0).strike(3), 1);
        PoolDesk y = new PoolDesk();
        Due.is("another key of 0", y.spend(0), true);
        Due.is("0 enters and hangs on itself", y.enter(1, 1, 1), 4);
    }

    /** Names of which each has one bit alone, at the ends and in the middle of each number; the last is all 0. */
    private static long[][] oneBitNames() {
        int[] bits = {0, 31, 32, 63};
        long[][] names = new long[17][4];
        for (int n = 0; n < 16; n++) {
            names[n][n / 4] = 1L << bits[n % 4];
        }
        return names;
    }

    private static PoolDesk hold(PoolDesk x, long[] name) {
        x.name(name[0], name[1], name[2], name[3]);
        return x;
    }

    private static void everyBitOfANameCounts() {
        PoolDesk x = new PoolDesk();
        long[][] names = oneBitNames();
        for (int n = 0; n < names.length; n++) {
            Due.tell(x, 77, n);
            Due.is("enter " + n, hold(x, names[n]).enter(100 - n, 1, 1), 0);
        }
        Due.is("order", x.order(2000), names.length);
        for (int n = 0; n < names.length; n++) {
            Due.is("fee of " + n, hold(x, names[n]).look(0), 100 - n);
            for (int w = 0; w < 4; w++) {
                Due.is("row " + n + " " + w, x.row(n, w), names[n][w]);
            }
        }
        for (int n = 0; n < names.length; n++) {
            Due.is("spend " + n, hold(x, names[n]).spend(0), true);
            Due.is("a child of " + n, Due.named(x, 500 + n).enter(1, 1, 1), 0);
            Due.is("its parents", x.look(4), 1);
            Due.is("children of " + n, hold(x, names[n]).look(5), 1);
        }
        for (int n = 0; n < names.length; n++) {
            Due.is("spend " + n + " again", hold(x, names[n]).spend(0), true);
            Due.is("a spent key", Due.named(x, 600).enter(1, 1, 1), 2);
            Due.is("strike " + n, hold(x, names[n]).strike(0), 1);
            Due.is("take " + n, x.take(), true);
        }
        Due.is("all have left", x.count(0), 0);
    }

    private static void everyPartOfAKeyCounts() {
        PoolDesk x = new PoolDesk();
        long[][] names = {{1, 1, 1, 1}, {2, 1, 1, 1}, {1, 2, 1, 1}, {1, 1, 2, 1}, {1, 1, 1, 2}};
        for (long[] name : names) {
            Due.is("a new name", hold(x, name).spend(0), true);
        }
        Due.is("a new index", x.spend(1), true);
        for (long[] name : names) {
            Due.is("the same key", hold(x, name).spend(0), false);
        }
        Due.is("the same index of another name", hold(x, names[0]).spend(1), true);
        Due.is("keys in hand", x.count(3), 7);
        Due.is("all go in", Due.named(x, 5).enter(1, 1, 1), 0);
        for (long[] name : names) {
            Due.is("spend", hold(x, name).spend(0), true);
            Due.is("each one is spent", Due.named(x, 6).enter(1, 1, 1), 2);
        }
        Due.is("spend", hold(x, names[1]).spend(1), true);
        Due.is("a key that nobody spends", Due.named(x, 6).enter(1, 1, 1), 0);
    }

    private static void indexMayBeAnyInt() {
        int[] indexes = {Integer.MIN_VALUE, -1, 0, 255, 256, 65535, 65536, Integer.MAX_VALUE};
        PoolDesk x = new PoolDesk();
        for (int index : indexes) {
            Due.is("spend " + index, Due.named(x, 9).spend(index), true);
        }
        Due.is("enter", Due.named(x, 5).enter(1, 1, 0), 0);
        for (int index : indexes) {
            Due.is("another with " + index, Due.enter(x, 6, 1, 1, 0, 9, index), 2);
        }
        Due.named(x, 9);
        Due.is("strike 9:1", x.strike(1), 0);
        Due.is("strike 9:-2", x.strike(-2), 0);
        Due.is("strike 9:MIN", x.strike(Integer.MIN_VALUE), 1);
    }

    private static void lastNameToldCounts() {
        PoolDesk x = new PoolDesk();
        x.name(9, 9, 9, 9);
        Due.tell(x, 8, 0);
        Due.named(x, 1);
        Due.named(x, 2);
        Due.is("enter 2", x.enter(1, 1, 1), 0);
        x.name(9, 9, 9, 9);
        Due.is("strike of a name told too early", x.strike(0), 0);
        Due.areGone(x, 1);
        Due.areIn(x, 2);
        Due.named(x, 2);
        Due.named(x, 3);
        Due.is("2 was in hand", x.drop(), 0);
    }

    private static void keysWaitForEnter() {
        PoolDesk x = new PoolDesk();
        Due.tell(x, 9, 0, 9, 1);
        Due.is("told keys are not spent yet", x.strike(0), 0);
        Due.is("nor counted in the pool", x.count(1), 0);
        Due.named(x, 1);
        x.order(5);
        x.take();
        Due.is("keys in hand", x.count(3), 2);
        Due.is("enter", x.enter(1, 1, 1), 0);
        Due.is("keys that it spends", x.look(3), 2);
        Due.is("keys in hand after", x.count(3), 0);
    }

    private static void nameStaysInHand() {
        PoolDesk x = new PoolDesk();
        Due.tell(x, 9, 0);
        x.name(1, 2, 3, 4);
        Due.is("enter", x.enter(7, 1, 1), 0);
        Due.is("after enter", x.look(0), 7);
        Due.is("after look", x.look(0), 7);
        x.order(100);
        x.row(0, 0);
        x.count(0);
        x.fees();
        Due.is("after order, row, count and fees", x.look(0), 7);
        Due.is("strike", x.strike(0), 0);
        Due.is("after strike", x.look(0), 7);
        Due.is("spend", x.spend(5), true);
        Due.is("after spend", x.look(0), 7);
        Due.is("a refused enter", x.enter(-1, 1, 1), -1);
        Due.is("after a refused enter", x.look(0), 7);
        Due.is("an enter that answers 1", x.enter(1, 1, 1), 1);
        Due.is("after that", x.look(0), 7);
        Due.is("take", x.take(), true);
        Due.is("after take", x.take(), false);
        Due.is("after drop", x.drop(), 0);
    }

    private static void keysKeepTheNamesTheyWereToldWith() {
        for (long struck = 1; struck <= 4; struck++) {
            PoolDesk x = new PoolDesk();
            for (int n = 1; n <= 3; n++) {
                Due.is("spend " + n, Due.named(x, n).spend(10 * n), true);
                Due.is("keys in hand", x.count(3), n);
            }
            Due.is("enter 4", Due.named(x, 4).enter(1, 1, 1), 0);
            Due.named(x, struck);
            Due.is("strike " + struck + ":11", x.strike(11), 0);
            Due.is("strike " + struck, x.strike((int) struck * 10), struck <= 3 ? 1 : 0);
        }
    }

    private static void noNinthKey() {
        PoolDesk x = new PoolDesk();
        for (int k = 0; k < 8; k++) {
            Due.is("key " + k, x.spend(k), true);
            Due.is("keys in hand", x.count(3), k + 1);
        }
        Due.is("a ninth key", x.spend(8), false);
        Due.is("a ninth key of another name", Due.named(x, 3).spend(0), false);
        Due.is("keys in hand at the end", x.count(3), 8);
        Due.is("enter with 8 keys", Due.named(x, 5).enter(1, 1, 1), 0);
        Due.is("look at 8 keys", x.look(3), 8);
        Due.is("who spends the ninth", Due.named(x, 0).strike(8), 0);
        Due.is("who spends that of the other name", Due.named(x, 3).strike(0), 0);
        Due.is("who spends the eighth", Due.named(x, 0).strike(7), 1);
        Due.is("a key when there are none again", x.spend(8), true);
    }

    private static void noKeyTwice() {
        PoolDesk x = new PoolDesk();
        for (int k = 0; k < 8; k++) {
            Due.is("key " + k, x.spend(k), true);
            for (int again = 0; again <= k; again++) {
                Due.is("key " + again + " again", x.spend(again), false);
            }
            Due.is("keys in hand", x.count(3), k + 1);
        }
        Due.is("enter", Due.named(x, 5).enter(1, 1, 1), 0);
        Due.is("keys that it spends", x.look(3), 8);
    }

    private static void onlyKeysInHandAreInTheWay() {
        PoolDesk x = new PoolDesk();
        Due.comes(x, 1, 1, 1, 1, 9, 0);
        Due.is("a key that one in the pool spends", Due.named(x, 9).spend(0), true);
        Due.is("enter 2", Due.named(x, 2).enter(1, 1, 1), 2);
        Due.is("the key of before", Due.named(x, 9).spend(0), true);
        Due.is("no output of 1", Due.named(x, 1).spend(7), true);
        Due.is("keys in hand", x.count(3), 2);
    }

    private static void objectsShareNothing() {
        PoolDesk x = new PoolDesk();
        PoolDesk y = new PoolDesk();
        Due.comes(x, 5, 1, 1, 0, 9, 0);
        Due.is("order", x.order(9), 1);
        Due.tell(x, 8, 0);
        Due.counts(y, 0, 0, 0, 0, 0);
        Due.is("the other row", y.row(0, 0), 0);
        Due.is("the other name in hand", y.spend(0), true);
        Due.is("the other order", y.order(9), 0);
        Due.is("keys in hand of the first", x.count(3), 1);
        Due.is("row of the first", x.row(0, 0), 5);
    }
}
