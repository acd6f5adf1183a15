/** Promises 1 to 3: a new object, the name in hand, the keys in hand. */
public final class HandTest {
    public static void main(String[] args) {
        newObjectIsEmpty();
        nameInHandStartsAsZeros();
        nameHasFourNumbers();
        keysDifferByEveryPart();
        eightKeysAtMost();
        indexMayBeAnyInt();
        objectsShareNothing();
        Due.end();
    }

    private static void newObjectIsEmpty() {
        PoolDesk x = new PoolDesk();
        for (int what = 0; what <= 4; what++) {
            Due.is("new: count " + what, x.count(what), 0);
        }
        Due.is("new: fees", x.fees(), 0);
        Due.is("new: look", x.look(0), -1);
        Due.is("new: take", x.take(), false);
        Due.is("new: drop", x.drop(), 0);
        Due.is("new: strike", x.strike(0), 0);
        Due.is("new: row", x.row(0, 0), 0);
        Due.is("new: order", x.order(2000), 0);
        Due.is("new: enter without keys", x.enter(1, 1, 1), -1);
    }

    private static void nameInHandStartsAsZeros() {
        PoolDesk x = new PoolDesk();
        Due.is("spend of 0", x.spend(3), true);
        x.name(0, 0, 0, 0);
        Due.is("spend of 0 again", x.spend(3), false);
        x.name(1, 0, 0, 0);
        Due.is("enter 1", x.enter(5, 6, 7), 0);
        x.name(0, 0, 0, 0);
        Due.is("strike 0:3", x.strike(3), 1);
    }

    private static void nameHasFourNumbers() {
        PoolDesk x = new PoolDesk();
        long[][] names = {{1, 2, 3, 4}, {-1, 2, 3, 4}, {1, -2, 3, 4}, {1, 2, -3, 4}, {1, 2, 3, -4},
            {4, 3, 2, 1}, {Long.MIN_VALUE, Long.MAX_VALUE, -1, 0}, {1L << 32 | 1, 2, 3, 4}};
        for (int n = 0; n < names.length; n++) {
            x.name(77, 0, 0, 0);
            Due.is("spend " + n, x.spend(n), true);
            hold(x, names[n]);
            Due.is("enter " + n, x.enter(n, 10 + n, 1), 0);
        }
        for (int n = 0; n < names.length; n++) {
            hold(x, names[n]);
            Due.is("look at fee of " + n, x.look(0), n);
            Due.is("look at size of " + n, x.look(1), 10 + n);
        }
        Due.is("count of all", x.count(0), names.length);
    }

    private static void hold(PoolDesk x, long[] name) {
        x.name(name[0], name[1], name[2], name[3]);
    }

    private static void keysDifferByEveryPart() {
        PoolDesk x = new PoolDesk();
        long[][] names = {{1, 1, 1, 1}, {2, 1, 1, 1}, {1, 2, 1, 1}, {1, 1, 2, 1}, {1, 1, 1, 2}};
        for (long[] name : names) {
            hold(x, name);
            Due.is("a new key", x.spend(0), true);
            Due.is("the same key", x.spend(0), false);
        }
        Due.is("the same name, another index", x.spend(1), true);
        hold(x, names[0]);
        Due.is("the first key again", x.spend(0), false);
        Due.is("count of keys in hand", x.count(3), 6);
    }

    private static void eightKeysAtMost() {
        PoolDesk x = new PoolDesk();
        for (int k = 0; k < 8; k++) {
            Due.is("key " + k, x.spend(k), true);
            Due.is("keys in hand", x.count(3), k + 1);
        }
        Due.is("a ninth key", x.spend(8), false);
        Due.is("a known key when there are 8", x.spend(0), false);
        Due.is("keys in hand at the end", x.count(3), 8);
        Due.named(x, 5);
        Due.is("enter with 8 keys", x.enter(1, 1, 1), 0);
        Due.is("look at 8 keys", x.look(3), 8);
        Due.is("keys in hand after", x.count(3), 0);
        Due.named(x, 0);
        Due.is("who spends the ninth", x.strike(8), 0);
        Due.is("who spends the eighth", x.strike(7), 1);
    }

    private static void indexMayBeAnyInt() {
        PoolDesk x = new PoolDesk();
        Due.comes(x, 5, 1, 1, 0, 9, Integer.MIN_VALUE, 9, -1, 9, Integer.MAX_VALUE, 9, 0);
        Due.is("another with 9:-1", Due.enter(x, 6, 1, 1, 0, 9, -1), 2);
        Due.named(x, 9);
        Due.is("strike 9:1", x.strike(1), 0);
        Due.is("strike 9:MIN", x.strike(Integer.MIN_VALUE), 1);
    }

    private static void objectsShareNothing() {
        PoolDesk x = new PoolDesk();
        PoolDesk y = new PoolDesk();
        Due.comes(x, 5, 1, 1, 0, 9, 0);
        Due.tell(x, 8, 0);
        Due.is("the other pool", y.count(0), 0);
        Due.is("the other hand", y.count(3), 0);
    }
}
