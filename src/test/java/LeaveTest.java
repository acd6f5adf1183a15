/** Promises 5 to 7: take, drop, strike. */
public final class LeaveTest {
    public static void main(String[] args) {
        takeLeavesTheChildren();
        takenOneMayComeBack();
        dropTakesTheFamily();
        dropOfAnInnerOne();
        dropOfASharedChildCountsOnce();
        strikeTakesTheSpenderAndItsFamily();
        strikeOfKeysOfStrangers();
        leavingKeepsTheHand();
        Due.end();
    }

    /** 1 has the children 2 and 3, both have the child 4; 5 is a stranger. */
    private static PoolDesk diamond() {
        PoolDesk x = new PoolDesk();
        Due.comes(x, 1, 1, 10, 2, 9, 0);
        Due.comes(x, 2, 2, 20, 1, 1, 0);
        Due.comes(x, 3, 4, 30, 1, 1, 1);
        Due.comes(x, 4, 8, 40, 1, 2, 0, 3, 0);
        Due.comes(x, 5, 16, 50, 1, 9, 1);
        return x;
    }

    private static void takeLeavesTheChildren() {
        PoolDesk x = diamond();
        Due.is("take a stranger", Due.named(x, 9).take(), false);
        Due.is("take 2", Due.named(x, 2).take(), true);
        Due.is("take 2 again", x.take(), false);
        Due.is("count", x.count(0), 4);
        Due.is("parents of 4", Due.named(x, 4).look(4), 1);
        Due.is("keys of 4", x.look(3), 2);
        Due.is("children of 1", Due.named(x, 1).look(5), 1);
        Due.is("family of 1", x.look(6), 3);
        Due.is("fees", x.fees(), 29);
        Due.is("keys spent", x.count(1), 5);
        Due.is("came", x.count(4), 5);
    }

    private static void takenOneMayComeBack() {
        PoolDesk x = diamond();
        Due.is("take 2", Due.named(x, 2).take(), true);
        Due.is("with too few outputs", Due.enter(x, 2, 1, 1, 0, 7, 0), 3);
        Due.comes(x, 2, 100, 1, 1, 7, 0);
        Due.is("its child", x.look(5), 1);
        Due.is("its parents", x.look(4), 0);
        Due.is("its coming", x.look(9), 6);
        Due.is("parents of 4", Due.named(x, 4).look(4), 2);
        Due.is("family of 1", Due.named(x, 1).look(6), 3);
    }

    private static void dropTakesTheFamily() {
        PoolDesk x = diamond();
        Due.is("drop a stranger", Due.named(x, 9).drop(), 0);
        Due.is("drop 5", Due.named(x, 5).drop(), 1);
        Due.is("drop 1", Due.named(x, 1).drop(), 4);
        Due.is("drop 1 again", x.drop(), 0);
        Due.is("count", x.count(0), 0);
        Due.is("sizes", x.count(2), 0);
        Due.comes(x, 4, 1, 1, 1, 9, 0);
        Due.is("no old parents", x.look(4), 0);
        Due.is("no old children", x.look(5), 0);
    }

    private static void dropOfAnInnerOne() {
        PoolDesk x = diamond();
        Due.is("drop 3", Due.named(x, 3).drop(), 2);
        Due.is("1 stays", Due.inPool(x, 1), true);
        Due.is("2 stays", Due.inPool(x, 2), true);
        Due.is("4 is gone", Due.inPool(x, 4), false);
        Due.is("children of 2", Due.named(x, 2).look(5), 0);
        Due.is("2:0 is free", Due.enter(x, 6, 1, 1, 1, 2, 0), 0);
    }

    private static void dropOfASharedChildCountsOnce() {
        PoolDesk x = diamond();
        Due.comes(x, 6, 1, 1, 1, 4, 0);
        Due.is("drop 1", Due.named(x, 1).drop(), 5);
        Due.is("5 stays", x.fees(), 16);
    }

    private static void strikeTakesTheSpenderAndItsFamily() {
        PoolDesk x = diamond();
        Due.is("strike 1:1", Due.named(x, 1).strike(1), 2);
        Due.is("strike 1:1 again", x.strike(1), 0);
        Due.is("strike 1:2", x.strike(2), 0);
        Due.is("strike 1:-1", x.strike(-1), 0);
        Due.is("1 stays", Due.inPool(x, 1), true);
        Due.is("count", x.count(0), 3);
    }

    private static void strikeOfKeysOfStrangers() {
        PoolDesk x = diamond();
        Due.is("strike 9:2", Due.named(x, 9).strike(2), 0);
        Due.is("strike 9:0", x.strike(0), 4);
        Due.is("5 stays", x.count(0), 1);
        Due.is("strike 9:1", x.strike(1), 1);
        x.name(9, 1, 0, 0);
        Due.comes(x, 1, 1, 1, 1, 9, 0);
        x.name(9, 0, 0, 1);
        Due.is("another name", x.strike(0), 0);
    }

    private static void leavingKeepsTheHand() {
        PoolDesk x = diamond();
        Due.tell(x, 7, 0, 7, 1);
        Due.is("take 5", Due.named(x, 5).take(), true);
        Due.is("drop 4", Due.named(x, 4).drop(), 1);
        Due.is("strike 1:0", Due.named(x, 1).strike(0), 1);
        Due.is("keys in hand", x.count(3), 2);
        Due.is("the name in hand", x.look(9), 1);
    }
}
