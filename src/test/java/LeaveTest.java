/** Promises 5 to 7: take, drop, strike. */
public final class LeaveTest {
    public static void main(String[] args) {
        Due.says("The transaction with the name in hand leaves alone, its children stay: true",
            LeaveTest::takeLeavesTheChildren, LeaveTest::takeOfAllInTurn, LeaveTest::takenOneMayComeBack);
        Due.says("false if there is none in the pool", LeaveTest::takeOfNone);
        Due.says("The transaction with the name in hand goes, with its family: how many",
            LeaveTest::dropTakesTheFamily, LeaveTest::dropOfAnInnerOne, LeaveTest::dropLeavesNoTrace);
        Due.says("how many; 0 if there is none", LeaveTest::dropOfNone);
        Due.says("Who spends the key of the name in hand and an index goes, with its family: how many",
            LeaveTest::strikeTakesTheSpenderAndItsFamily);
        Due.says("Who spends the key of the name in hand and an index goes",
            LeaveTest::strikeOfAnyKeyOfEight, LeaveTest::strikeOfKeysOfStrangers);
        Due.says("how many; 0 if there is none", LeaveTest::strikeOfNone, LeaveTest::strikeOfKeysThatLeft);
        Due.end();
    }

    private static void takeLeavesTheChildren() {
        PoolDesk x = Due.diamond();
        Due.is("take 2", Due.named(x, 2).take(), true);
        Due.areIn(x, 1, 3, 4, 5);
        Due.areGone(x, 2);
        Due.looks(x, 4, 8, 40, 1, 2, 1, 0, 1, 8, 40, 4);
        Due.looks(x, 1, 1, 10, 2, 1, 0, 1, 3, 13, 80, 1);
        Due.counts(x, 4, 5, 130, 0, 5);
        Due.is("fees", x.fees(), 29);
        Due.is("the keys of 4 are still spent", Due.enter(x, 6, 1, 1, 1, 2, 0), 2);
        Due.is("the keys of 2 are free", Due.enter(x, 6, 1, 1, 1, 1, 0), 0);
    }

    private static void takeOfAllInTurn() {
        PoolDesk x = Due.diamond();
        for (int own = 1; own <= 5; own++) {
            Due.is("take " + own, Due.named(x, own).take(), true);
            Due.is("count", x.count(0), 5 - own);
        }
        Due.counts(x, 0, 0, 0, 0, 5);
        Due.is("fees", x.fees(), 0);
    }

    private static void takenOneMayComeBack() {
        PoolDesk x = Due.diamond();
        Due.is("take 2", Due.named(x, 2).take(), true);
        Due.is("with too few outputs", Due.enter(x, 2, 1, 1, 0, 7, 0), 3);
        Due.comes(x, 2, 100, 1, 1, 7, 0);
        Due.looks(x, 2, 100, 1, 1, 1, 0, 1, 2, 108, 41, 6);
        Due.is("parents of 4", Due.named(x, 4).look(4), 2);
        Due.is("family of 1", Due.named(x, 1).look(6), 3);
    }

    private static void takeOfNone() {
        PoolDesk x = new PoolDesk();
        Due.is("an empty pool", x.take(), false);
        Due.comes(x, 1, 1, 1, 1, 9, 0);
        Due.is("a name of which a key is spent", Due.named(x, 9).take(), false);
        x.name(1, 0, 0, 1);
        Due.is("a name that is like it", x.take(), false);
        Due.is("take 1", Due.named(x, 1).take(), true);
        Due.is("take 1 again", x.take(), false);
        Due.is("one that was not let in", Due.enter(x, 2, 1, 1, 1, 2, 0), 4);
        Due.is("take 2", x.take(), false);
    }

    private static void dropTakesTheFamily() {
        PoolDesk x = Due.diamond();
        Due.is("drop 5", Due.named(x, 5).drop(), 1);
        Due.counts(x, 4, 5, 100, 0, 5);
        Due.comes(x, 6, 1, 1, 1, 4, 0);
        Due.is("drop 1", Due.named(x, 1).drop(), 5);
        Due.counts(x, 0, 0, 0, 0, 6);
        Due.is("fees", x.fees(), 0);
    }

    private static void dropOfAnInnerOne() {
        PoolDesk x = Due.diamond();
        Due.is("drop 3", Due.named(x, 3).drop(), 2);
        Due.areIn(x, 1, 2, 5);
        Due.areGone(x, 3, 4);
        Due.looks(x, 1, 1, 10, 2, 1, 0, 1, 2, 3, 30, 1);
        Due.looks(x, 2, 2, 20, 1, 1, 1, 0, 1, 2, 20, 2);
        Due.is("2:0 is free", Due.enter(x, 6, 1, 1, 1, 2, 0), 0);
    }

    private static void dropLeavesNoTrace() {
        PoolDesk x = Due.diamond();
        Due.is("drop 1", Due.named(x, 1).drop(), 4);
        Due.comes(x, 4, 1, 2, 3, 8, 0);
        Due.looks(x, 4, 1, 2, 3, 1, 0, 0, 1, 1, 2, 6);
        Due.comes(x, 1, 1, 2, 3, 9, 0);
        Due.looks(x, 1, 1, 2, 3, 1, 0, 0, 1, 1, 2, 7);
    }

    private static void dropOfNone() {
        PoolDesk x = new PoolDesk();
        Due.is("an empty pool", x.drop(), 0);
        Due.comes(x, 1, 1, 1, 1, 9, 0);
        Due.is("a name of which a key is spent", Due.named(x, 9).drop(), 0);
        x.name(1, 0, 1, 0);
        Due.is("a name that is like it", x.drop(), 0);
        Due.is("drop 1", Due.named(x, 1).drop(), 1);
        Due.is("drop 1 again", x.drop(), 0);
        Due.comes(x, 2, 1, 1, 1, 1, 0);
        Due.is("drop 1 that has left, though one spends its output", Due.named(x, 1).drop(), 0);
        Due.areIn(x, 2);
    }

    private static void strikeTakesTheSpenderAndItsFamily() {
        PoolDesk x = Due.diamond();
        Due.is("strike 1:1", Due.named(x, 1).strike(1), 2);
        Due.areIn(x, 1, 2, 5);
        Due.areGone(x, 3, 4);
        Due.is("strike 9:0", Due.named(x, 9).strike(0), 2);
        Due.counts(x, 1, 1, 50, 0, 5);
    }

    private static void strikeOfAnyKeyOfEight() {
        for (int k = 0; k < 8; k++) {
            PoolDesk x = new PoolDesk();
            Due.comes(x, 1, 1, 1, 1, 9, 0, 9, 1, 9, 2, 9, 3, 9, 4, 9, 5, 9, 6, 9, 7);
            Due.comes(x, 2, 1, 1, 1, 8, k);
            Due.is("strike 9:" + k, Due.named(x, 9).strike(k), 1);
            Due.areIn(x, 2);
            Due.areGone(x, 1);
        }
    }

    private static void strikeOfKeysOfStrangers() {
        int[] indexes = {Integer.MIN_VALUE, -1, 8, Integer.MAX_VALUE};
        PoolDesk x = new PoolDesk();
        for (int n = 0; n < 4; n++) {
            Due.comes(x, n + 1, 1, 1, 1, 9, indexes[n]);
        }
        for (int n = 0; n < 4; n++) {
            Due.is("strike 9:" + indexes[n], Due.named(x, 9).strike(indexes[n]), 1);
            Due.areGone(x, n + 1);
            Due.is("count", x.count(0), 3 - n);
        }
    }

    private static void strikeOfNone() {
        PoolDesk x = new PoolDesk();
        Due.is("an empty pool", x.strike(0), 0);
        Due.comes(x, 1, 1, 1, 8, 9, 3);
        int[] others = {Integer.MIN_VALUE, -1, 0, 2, 4, 259, Integer.MAX_VALUE};
        for (int index : others) {
            Due.is("an output that nobody spends", Due.named(x, 1).strike(index), 0);
            Due.is("9:" + index, Due.named(x, 9).strike(index), 0);
        }
        for (int w = 0; w < 4; w++) {
            x.name(w == 0 ? 8 : 9, w == 1 ? 1 : 0, w == 2 ? 1 : 0, w == 3 ? 1 : 0);
            Due.is("a name that differs in number " + w, x.strike(3), 0);
        }
        Due.tell(x, 7, 7);
        Due.is("a key that is in hand alone", x.strike(7), 0);
        Due.areIn(x, 1);
    }

    private static void strikeOfKeysThatLeft() {
        PoolDesk x = Due.diamond();
        Due.is("strike 1:0", Due.named(x, 1).strike(0), 2);
        Due.is("strike 1:0 again", x.strike(0), 0);
        Due.is("the child of what was struck", Due.named(x, 3).strike(0), 0);
        Due.is("take 3", x.take(), true);
        Due.is("strike 1:1", Due.named(x, 1).strike(1), 0);
        Due.areIn(x, 1, 5);
    }
}
