/** Promises 8, 11 and 12: look, count, fees. */
public final class LookTest {
    private static final long MOST_FEE = 2_100_000_000_000_000L;

    public static void main(String[] args) {
        lookTellsEverything();
        parentsAndChildrenCountOnce();
        otherWhatsAreRefused();
        countTellsEverything();
        longChain();
        greatSums();
        Due.end();
    }

    private static void lookTellsEverything() {
        PoolDesk x = new PoolDesk();
        Due.comes(x, 7, 3, 5, 1, 9, 9);
        Due.comes(x, 1, 100, 10, 3, 9, 0, 7, 0, 9, 1);
        Due.comes(x, 2, 20, 11, 2, 1, 0);
        Due.comes(x, 3, 3000, 12, 1, 1, 2);
        Due.comes(x, 4, 40000, 13, 0, 2, 0);
        Due.comes(x, 5, 500000, 14, 0, 9, 2);
        looks(x, 1, 100, 10, 3, 3, 1, 2, 4, 43120, 46, 2);
        looks(x, 2, 20, 11, 2, 1, 1, 1, 2, 40020, 24, 3);
        looks(x, 4, 40000, 13, 0, 1, 1, 0, 1, 40000, 13, 5);
        looks(x, 7, 3, 5, 1, 1, 0, 1, 5, 43123, 51, 1);
    }

    private static void looks(PoolDesk x, long own, long... want) {
        Due.named(x, own);
        for (int what = 0; what < want.length; what++) {
            Due.is("look " + what + " of " + own, x.look(what), want[what]);
        }
    }

    private static void parentsAndChildrenCountOnce() {
        PoolDesk x = new PoolDesk();
        Due.comes(x, 1, 1, 1, 8, 9, 0);
        Due.comes(x, 2, 1, 1, 8, 1, 0, 1, 1, 1, 2);
        Due.is("parents of 2", x.look(4), 1);
        Due.is("keys of 2", x.look(3), 3);
        Due.comes(x, 3, 1, 1, 8, 1, 3, 2, 0, 2, 1);
        Due.is("parents of 3", x.look(4), 2);
        Due.is("children of 1", Due.named(x, 1).look(5), 2);
        Due.is("family of 1", x.look(6), 3);
    }

    private static void otherWhatsAreRefused() {
        PoolDesk x = new PoolDesk();
        Due.comes(x, 1, 1, 1, 8, 9, 0);
        int[] whats = {-1, 10, 64, Integer.MIN_VALUE, Integer.MAX_VALUE};
        for (int what : whats) {
            Due.is("look " + what, x.look(what), -1);
            Due.is("count " + what, x.count(what), -1);
        }
        Due.is("count 5", x.count(5), -1);
        Due.named(x, 2);
        for (int what = -1; what <= 10; what++) {
            Due.is("look at nobody " + what, x.look(what), -1);
        }
    }

    private static void countTellsEverything() {
        PoolDesk x = new PoolDesk();
        Due.comes(x, 1, 100, 10, 3, 9, 0, 9, 1, 9, 2);
        Due.comes(x, 2, 200, 20, 3, 1, 0, 1, 1);
        Due.tell(x, 8, 0, 8, 1, 8, 2, 8, 3);
        counts(x, 2, 5, 30, 4, 2);
        Due.is("fees", x.fees(), 300);
        Due.is("take 1", Due.named(x, 1).take(), true);
        counts(x, 1, 2, 20, 4, 2);
        Due.is("fees after take", x.fees(), 200);
        Due.is("enter 3", Due.named(x, 3).enter(400, 40, 0), 0);
        counts(x, 2, 6, 60, 0, 3);
        Due.is("fees after enter", x.fees(), 600);
    }

    private static void counts(PoolDesk x, long... want) {
        for (int what = 0; what < want.length; what++) {
            Due.is("count " + what, x.count(what), want[what]);
        }
    }

    private static void longChain() {
        PoolDesk x = new PoolDesk();
        for (long own = 40; own >= 1; own--) {
            Due.comes(x, own, own, 1, 1, own - 1, 0);
        }
        for (long own = 1; own <= 40; own++) {
            Due.is("family of " + own, Due.named(x, own).look(6), 41 - own);
        }
        Due.is("a circle of 41", Due.enter(x, 0, 1, 1, 1, 40, 0), 4);
    }

    private static void greatSums() {
        PoolDesk x = new PoolDesk();
        Due.comes(x, 1, MOST_FEE, 2000, 1, 500, 0);
        for (long own = 2; own <= 40; own++) {
            Due.comes(x, own, MOST_FEE, 2000, 1, own - 1, 0);
        }
        Due.is("fees", x.fees(), 40 * MOST_FEE);
        Due.is("sizes", x.count(2), 80000);
        Due.is("family's fees", Due.named(x, 1).look(7), 40 * MOST_FEE);
        Due.is("family's sizes", x.look(8), 80000);
    }
}
