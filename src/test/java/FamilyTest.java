/** What "Terms" says of parents, children, families and comings. */
public final class FamilyTest {
    public static void main(String[] args) {
        Due.says("A PARENT of one is a transaction in the pool whose name is in one of the keys that it spends",
            FamilyTest::parentsAreThoseInThePool, FamilyTest::eightParents);
        Due.says("whose name is in one of the keys that it spends", FamilyTest::parentCountsOnce);
        Due.says("(also if it came later)", FamilyTest::parentMayComeLater, FamilyTest::parentMayComeBetween);
        Due.says("CHILDREN the other way round", FamilyTest::eightChildren, FamilyTest::childrenThatLeft);
        Due.says("Its FAMILY: itself", FamilyTest::familyOfOne);
        Due.says("its children, theirs, and so on",
            FamilyTest::chainOfForty, FamilyTest::chainThatCameBackwards, FamilyTest::sharedChildCountsOnce,
            FamilyTest::familyEndsWhereOneLeft);
        Due.says("its COMING: 1, 2, .. in the order in which they came into the pool",
            FamilyTest::comingsCountUp, FamilyTest::comingsAreNotUsedAgain);
        Due.says("An object is used for at most 512 calls after it has been made", FamilyTest::comingsOfAFullLife);
        Due.end();
    }

    private static void parentsAndChildren(PoolDesk x, long own, long parents, long children) {
        Due.is("parents of " + own, Due.named(x, own).look(4), parents);
        Due.is("children of " + own, x.look(5), children);
    }

    private static void parentsAreThoseInThePool() {
        PoolDesk x = new PoolDesk();
        Due.comes(x, 1, 1, 1, 2, 9, 0);
        Due.comes(x, 2, 1, 1, 2, 1, 0, 9, 1, 3, 0);
        parentsAndChildren(x, 1, 0, 1);
        parentsAndChildren(x, 2, 1, 0);
        Due.is("3 does not come in", Due.enter(x, 3, 1, 1, 1, 9, 0), 2);
        parentsAndChildren(x, 2, 1, 0);
        Due.is("take 1", Due.named(x, 1).take(), true);
        parentsAndChildren(x, 2, 0, 0);
    }

    private static void eightParents() {
        PoolDesk x = new PoolDesk();
        for (int p = 1; p <= 8; p++) {
            Due.comes(x, p, 1, 1, 1, 9, p);
        }
        Due.comes(x, 20, 1, 1, 1, 1, 0, 2, 0, 3, 0, 4, 0, 5, 0, 6, 0, 7, 0, 8, 0);
        parentsAndChildren(x, 20, 8, 0);
        for (int p = 1; p <= 8; p++) {
            parentsAndChildren(x, p, 0, 1);
            Due.is("family of " + p, x.look(6), 2);
            Due.is("take", x.take(), true);
            parentsAndChildren(x, 20, 8 - p, 0);
        }
    }

    private static void parentCountsOnce() {
        PoolDesk x = new PoolDesk();
        Due.comes(x, 1, 1, 1, 8, 9, 0);
        Due.comes(x, 2, 1, 1, 8, 1, 0, 1, 1, 1, 2, 1, 3, 1, 4, 1, 5, 1, 6, 1, 7);
        parentsAndChildren(x, 2, 1, 0);
        parentsAndChildren(x, 1, 0, 1);
        Due.is("keys of 2", Due.named(x, 2).look(3), 8);
        Due.comes(x, 3, 1, 1, 8, 2, 7, 9, 1, 2, 0);
        parentsAndChildren(x, 3, 1, 0);
        parentsAndChildren(x, 2, 1, 1);
    }

    private static void parentMayComeLater() {
        PoolDesk x = new PoolDesk();
        Due.comes(x, 2, 10, 1, 1, 1, 0);
        Due.comes(x, 3, 20, 1, 1, 1, 1);
        parentsAndChildren(x, 2, 0, 0);
        Due.comes(x, 1, 30, 1, 2, 9, 0);
        parentsAndChildren(x, 1, 0, 2);
        parentsAndChildren(x, 2, 1, 0);
        parentsAndChildren(x, 3, 1, 0);
        Due.looks(x, 1, 30, 1, 2, 1, 0, 2, 3, 60, 3, 3);
    }

    private static void parentMayComeBetween() {
        PoolDesk x = new PoolDesk();
        Due.comes(x, 1, 1, 1, 1, 9, 0);
        Due.comes(x, 3, 4, 1, 1, 2, 0);
        Due.comes(x, 2, 2, 1, 1, 1, 0);
        parentsAndChildren(x, 1, 0, 1);
        parentsAndChildren(x, 2, 1, 1);
        parentsAndChildren(x, 3, 1, 0);
        Due.is("family's fees of 1", Due.named(x, 1).look(7), 7);
        Due.is("2 leaves", Due.named(x, 2).take(), true);
        Due.comes(x, 2, 2, 1, 1, 9, 1);
        parentsAndChildren(x, 1, 0, 0);
        parentsAndChildren(x, 2, 0, 1);
    }

    private static void eightChildren() {
        PoolDesk x = new PoolDesk();
        Due.comes(x, 1, 1, 1, 8, 9, 0);
        for (int c = 0; c < 8; c++) {
            parentsAndChildren(x, 1, 0, c);
            Due.comes(x, 20 + c, 1, 1, 1, 1, c);
            parentsAndChildren(x, 20 + c, 1, 0);
        }
        parentsAndChildren(x, 1, 0, 8);
        Due.is("its family", x.look(6), 9);
    }

    private static void childrenThatLeft() {
        PoolDesk x = Due.diamond();
        Due.is("take 2", Due.named(x, 2).take(), true);
        parentsAndChildren(x, 1, 0, 1);
        Due.is("drop 3", Due.named(x, 3).drop(), 2);
        parentsAndChildren(x, 1, 0, 0);
        Due.comes(x, 6, 1, 1, 1, 9, 6);
        Due.comes(x, 7, 1, 1, 1, 9, 7);
        parentsAndChildren(x, 1, 0, 0);
        parentsAndChildren(x, 6, 0, 0);
        parentsAndChildren(x, 7, 0, 0);
    }

    private static void familyOfOne() {
        PoolDesk x = new PoolDesk();
        Due.comes(x, 1, 5, 6, 0, 9, 0);
        Due.comes(x, 2, 7, 8, 0, 9, 1);
        Due.looks(x, 1, 5, 6, 0, 1, 0, 0, 1, 5, 6, 1);
        Due.is("drop", x.drop(), 1);
        Due.areIn(x, 2);
    }

    private static void familiesOfAChain(PoolDesk x) {
        for (long own = 1; own <= 40; own++) {
            Due.is("family of " + own, Due.named(x, own).look(6), 41 - own);
            Due.is("its fees", x.look(7), 3 * (41 - own));
            Due.is("its sizes", x.look(8), 2 * (41 - own));
        }
    }

    private static void chainOfForty() {
        PoolDesk x = new PoolDesk();
        Due.chain(x, 500, 1, 40, 3, 2);
        familiesOfAChain(x);
        Due.is("drop", Due.named(x, 1).drop(), 40);
    }

    private static void chainThatCameBackwards() {
        PoolDesk x = new PoolDesk();
        for (long own = 40; own >= 1; own--) {
            Due.comes(x, own, 3, 2, 1, own - 1, 0);
        }
        familiesOfAChain(x);
        Due.is("strike", Due.named(x, 0).strike(0), 40);
    }

    private static void sharedChildCountsOnce() {
        PoolDesk x = Due.diamond();
        Due.looks(x, 1, 1, 10, 2, 1, 0, 2, 4, 15, 100, 1);
        Due.looks(x, 2, 2, 20, 1, 1, 1, 1, 2, 10, 60, 2);
        Due.looks(x, 3, 4, 30, 1, 1, 1, 1, 2, 12, 70, 3);
        Due.looks(x, 4, 8, 40, 1, 2, 2, 0, 1, 8, 40, 4);
    }

    private static void familyEndsWhereOneLeft() {
        PoolDesk x = new PoolDesk();
        Due.chain(x, 500, 1, 5, 3, 2);
        Due.is("take 3", Due.named(x, 3).take(), true);
        Due.is("family of 1", Due.named(x, 1).look(6), 2);
        Due.is("family of 4", Due.named(x, 4).look(6), 2);
        Due.is("drop 1", Due.named(x, 1).drop(), 2);
        Due.areIn(x, 4, 5);
    }

    private static void comingsCountUp() {
        PoolDesk x = new PoolDesk();
        for (long own = 1; own <= 40; own++) {
            Due.comes(x, 1000 - own, own, 1, 1, 1_000 + own, 0);
            Due.is("coming", x.look(9), own);
            Due.is("came", x.count(4), own);
        }
        Due.is("the first", Due.named(x, 999).look(9), 1);
    }

    private static void comingsAreNotUsedAgain() {
        PoolDesk x = new PoolDesk();
        Due.comes(x, 1, 1, 1, 1, 9, 0);
        Due.is("not let in", Due.enter(x, 1, 1, 1, 1, 9, 1), 1);
        Due.is("not let in", Due.enter(x, 2, 1, 1, 1, 9, 0), 2);
        Due.is("not let in", Due.enter(x, 2, 1, 1, 1, 1, 1), 3);
        Due.is("not let in", Due.enter(x, 2, 1, 1, 1, 2, 1), 4);
        Due.is("refused", Due.enter(x, 2, -1, 1, 1, 9, 1), -1);
        Due.is("enter 2", Due.named(x, 2).enter(1, 1, 1), 0);
        Due.is("coming of 2", x.look(9), 2);
        Due.is("take", x.take(), true);
        Due.is("drop", Due.named(x, 1).drop(), 1);
        Due.is("came in all", x.count(4), 2);
        Due.comes(x, 1, 1, 1, 1, 9, 0);
        Due.is("coming of 1", x.look(9), 3);
    }

    // 40 that pay well, then as many that go at once (and so leave their keys free) as 512 calls have room for.
    private static void comingsOfAFullLife() {
        PoolDesk x = new PoolDesk();
        Due.fill(x, 1000, 40, 10, 10);
        Due.named(x, 1);
        int calls = 161;
        int came = 40;
        while (calls + 3 <= 508) {
            Due.is("spend", x.spend(0), true);
            came++;
            Due.is("enter", Due.named(x, came).enter(1, 10, 1), 5);
            calls += 3;
        }
        Due.is("came", x.count(4), came);
        Due.is("in the pool", x.count(0), 40);
        Due.is("fees", x.fees(), 400);
        Due.is("order", x.order(395), 39);
    }
}
