import java.util.function.Consumer;

/**
 * "A call that is refused changes nothing." Two objects are brought to one state, one of them is given calls that are
 * refused, and then both have to answer alike whatever they are asked, with all their later doings.
 */
public final class RefusedTest {
    public static void main(String[] args) {
        Due.says("A call that is refused changes nothing.",
            RefusedTest::refusedEnter, RefusedTest::enterWithoutKeys, RefusedTest::refusedSpend,
            RefusedTest::leavingOfNone, RefusedTest::questionsOutOfBounds, RefusedTest::refusedInAFullPool);
        Due.end();
    }

    /** The diamond, put in order, with two keys and the name 6 in hand. */
    private static PoolDesk busy() {
        PoolDesk x = Due.diamond();
        x.order(100);
        Due.tell(x, 9, 7, 5, 0);
        return Due.named(x, 6);
    }

    private static PoolDesk busyWithoutKeys() {
        PoolDesk x = busy();
        Due.is("enter 6", x.enter(32, 60, 1), 0);
        return x;
    }

    private static PoolDesk full() {
        PoolDesk x = new PoolDesk();
        Due.fill(x, 1, 40, 10, 10);
        x.order(50);
        Due.tell(x, 9, 7);
        return Due.named(x, 60);
    }

    private static void changesNothing(PoolDesk x, PoolDesk same, Consumer<PoolDesk> refusedCalls) {
        refusedCalls.accept(x);
        alike("name in hand, fee", x.look(0), same.look(0));
        alike("name in hand, spender of 0", x.strike(0), same.strike(0));
        asked(x, same);
        // The name in hand and the keys show in what enters.
        Due.named(x, 6);
        Due.named(same, 6);
        alike("enter", x.enter(64, 70, 2), same.enter(64, 70, 2));
        asked(x, same);
        for (int index = -1; index <= 8; index++) {
            alike("strike 9:" + index, Due.named(x, 9).strike(index), Due.named(same, 9).strike(index));
        }
        asked(x, same);
    }

    private static void asked(PoolDesk x, PoolDesk same) {
        for (int what = 0; what <= 4; what++) {
            alike("count " + what, x.count(what), same.count(what));
        }
        alike("fees", x.fees(), same.fees());
        for (int k = 0; k <= 6; k++) {
            alike("row " + k, x.row(k, 0), same.row(k, 0));
        }
        for (int own = 1; own <= 7; own++) {
            Due.named(x, own);
            Due.named(same, own);
            for (int what = 0; what <= 9; what++) {
                alike("look " + what + " of " + own, x.look(what), same.look(what));
            }
        }
    }

    private static void alike(String call, long got, long want) {
        Due.is("then " + call, got, want);
    }

    private static void refusedEnter() {
        changesNothing(busy(), busy(), x -> {
            Due.is("a bad fee", x.enter(-1, 1, 1), -1);
            Due.is("a bad fee", x.enter(Due.MOST_FEE + 1, 1, 1), -1);
            Due.is("a bad size", x.enter(1, 0, 1), -1);
            Due.is("a bad size", x.enter(1, 2001, 1), -1);
            Due.is("bad outputs", x.enter(1, 1, -1), -1);
            Due.is("bad outputs", x.enter(1, 1, 9), -1);
        });
    }

    private static void enterWithoutKeys() {
        changesNothing(busyWithoutKeys(), busyWithoutKeys(), x -> {
            Due.is("no keys", x.enter(1, 1, 1), -1);
            Due.is("no keys and bad numbers", x.enter(-1, 0, 9), -1);
        });
    }

    private static PoolDesk withEightKeys() {
        PoolDesk x = busy();
        Due.tell(x, 9, 8, 8, 1, 8, 2, 8, 3, 8, 4, 8, 5);
        return Due.named(x, 9);
    }

    private static void refusedSpend() {
        changesNothing(Due.named(busy(), 9), Due.named(busy(), 9), x -> Due.is("a key in hand", x.spend(7), false));
        changesNothing(withEightKeys(), withEightKeys(), x -> {
            Due.is("a ninth key", x.spend(6), false);
            Due.is("a key in hand", x.spend(8), false);
        });
    }

    private static void leavingOfNone() {
        changesNothing(busy(), busy(), x -> {
            Due.is("take", x.take(), false);
            Due.is("drop", x.drop(), 0);
            Due.is("strike", x.strike(0), 0);
            Due.is("strike", x.strike(-1), 0);
        });
    }

    private static void questionsOutOfBounds() {
        int[] far = {Integer.MIN_VALUE, -1, 10, 41, Integer.MAX_VALUE};
        changesNothing(busy(), busy(), x -> {
            for (int f : far) {
                Due.is("look", x.look(f), -1);
                Due.is("count", x.count(f), -1);
                Due.is("row", x.row(f, f), 0);
            }
            Due.is("look at none", x.look(0), -1);
        });
    }

    private static void refusedInAFullPool() {
        changesNothing(full(), full(), x -> {
            Due.is("a bad fee", x.enter(-1, 1, 1), -1);
            Due.is("a bad size", x.enter(100, 2001, 1), -1);
            Due.is("take", x.take(), false);
            Due.is("drop", x.drop(), 0);
            Due.is("strike", x.strike(0), 0);
        });
    }
}
