/** What "Terms" says of the rate, and of ENTERING when there are more than 40: who goes, and answers 0 and 5. */
public final class CrowdTest {
    private static final long MOST_FEE = Due.MOST_FEE;

    public static void main(String[] args) {
        Due.says("If there are more than 40 then", CrowdTest::fortyMayStay, CrowdTest::fortyAgainAfterOneLeft);
        Due.says("the one whose family has the least rate",
            CrowdTest::leastPayingGoes, CrowdTest::earlyOneThatPaysLessGoes, CrowdTest::goodChildSavesItsParent,
            CrowdTest::poorChildGoesWithoutItsParent, CrowdTest::familyNotChildrenAlone);
        Due.says("(of like ones that which came last) goes",
            CrowdTest::lastOfLikeOnesGoes, CrowdTest::likeOnesInOneFamily, CrowdTest::feesOfZeroAreLike);
        Due.says("goes, with its family", CrowdTest::familyGoesToo, CrowdTest::allMayGo);
        Due.says("if the one that came is among them, the answer is 5",
            CrowdTest::newcomerGoes, CrowdTest::newcomerGoesWithItsParent, CrowdTest::newcomerTakesItsChildAlong);
        Due.says("otherwise 0", CrowdTest::newcomerStaysWithoutItsChild, CrowdTest::newcomerStaysWithItsParent);
        Due.says("The RATE of one or more is the sum of their fees by the sum of their sizes",
            CrowdTest::rateIsOfSums);
        Due.says("(a fraction, exact)",
            CrowdTest::rateIsExactForLargeFamilies, CrowdTest::rateIsExactInSmallParts,
            CrowdTest::rateIsNoWholeNumber);
        Due.end();
    }

    private static void fortyMayStay() {
        PoolDesk x = new PoolDesk();
        Due.fill(x, 100, 39, 10, 10);
        Due.comes(x, 1, 0, 2000, 1, 9, 0);
        Due.counts(x, 40, 40, 2390, 0, 40);
        Due.areIn(x, 1, 100, 138);
        Due.is("the one above", Due.enter(x, 2, 10, 10, 1, 9, 1), 0);
        Due.counts(x, 40, 40, 400, 0, 41);
        Due.areGone(x, 1);
    }

    private static void fortyAgainAfterOneLeft() {
        PoolDesk x = new PoolDesk();
        Due.fill(x, 100, 40, 10, 10);
        Due.is("take", Due.named(x, 100).take(), true);
        Due.comes(x, 1, 0, 10, 1, 9, 0);
        Due.is("drop", Due.named(x, 101).drop(), 1);
        Due.comes(x, 2, 0, 10, 1, 9, 1);
        Due.is("strike", Due.named(x, 1_000_102).strike(0), 1);
        Due.comes(x, 3, 0, 10, 1, 9, 2);
        Due.areIn(x, 1, 2, 3);
        Due.counts(x, 40, 40, 400, 0, 43);
    }

    private static void leastPayingGoes() {
        PoolDesk x = new PoolDesk();
        Due.fill(x, 100, 20, 10, 10);
        Due.comes(x, 50, 99, 100, 1, 9, 0);
        Due.fill(x, 200, 19, 10, 10);
        Due.is("the one above", Due.enter(x, 60, 10, 10, 1, 9, 1), 0);
        Due.areGone(x, 50);
        Due.areIn(x, 60);
        Due.counts(x, 40, 40, 400, 0, 41);
        Due.is("9:0 is free", Due.named(x, 9).strike(0), 0);
    }

    // 200 comes when 100 has left, so that it may stand where an earlier one stood.
    private static void earlyOneThatPaysLessGoes() {
        PoolDesk x = new PoolDesk();
        Due.fill(x, 100, 1, 20, 10);
        Due.comes(x, 50, 5, 10, 1, 9, 0);
        Due.fill(x, 101, 38, 20, 10);
        Due.is("drop 100", Due.named(x, 100).drop(), 1);
        Due.fill(x, 200, 1, 20, 10);
        Due.is("one more", Due.enter(x, 201, 20, 10, 1, 9, 1), 0);
        Due.areGone(x, 50);
        Due.areIn(x, 200, 201);
    }

    private static void goodChildSavesItsParent() {
        PoolDesk x = new PoolDesk();
        Due.fill(x, 100, 38, 10, 10);
        Due.comes(x, 50, 9, 10, 1, 9, 1);
        Due.comes(x, 1, 0, 1000, 2, 9, 0);
        Due.is("a child that pays for both", Due.enter(x, 2, 5000, 10, 1, 1, 0), 0);
        Due.areIn(x, 1, 2);
        Due.areGone(x, 50);
    }

    private static void poorChildGoesWithoutItsParent() {
        PoolDesk x = new PoolDesk();
        Due.fill(x, 100, 38, 10, 10);
        Due.comes(x, 1, 20, 10, 2, 9, 0);
        Due.comes(x, 2, 1, 10, 1, 1, 0);
        Due.is("one more", Due.enter(x, 3, 10, 10, 1, 9, 1), 0);
        Due.areIn(x, 1, 3);
        Due.areGone(x, 2);
        Due.is("children of 1", Due.named(x, 1).look(5), 0);
    }

    // Without its grandchild 1 would pay least, 18 by 40; with it, 50 does, 1 by 2.
    private static void familyNotChildrenAlone() {
        PoolDesk x = new PoolDesk();
        Due.fill(x, 100, 36, 10, 10);
        Due.comes(x, 1, 9, 20, 1, 9, 0);
        Due.comes(x, 2, 9, 20, 1, 1, 0);
        Due.comes(x, 3, 99, 20, 1, 2, 0);
        Due.comes(x, 50, 1, 2, 1, 9, 1);
        Due.is("one more", Due.enter(x, 4, 10, 10, 1, 9, 2), 0);
        Due.areIn(x, 1, 2, 3);
        Due.areGone(x, 50);
    }

    private static void lastOfLikeOnesGoes() {
        PoolDesk x = new PoolDesk();
        Due.fill(x, 100, 40, 10, 10);
        Due.is("like rate, other numbers", Due.enter(x, 60, 7, 7, 1, 9, 1), 5);
        Due.is("drop one that came early", Due.named(x, 103).drop(), 1);
        Due.comes(x, 300, 20, 20, 1, 9, 1);
        Due.is("a better one", Due.enter(x, 61, 100, 10, 1, 9, 2), 0);
        Due.areGone(x, 300);
        Due.areIn(x, 139);
        Due.is("another", Due.enter(x, 62, 100, 10, 1, 9, 3), 0);
        Due.areGone(x, 139);
        Due.areIn(x, 100, 138);
    }

    private static void likeOnesInOneFamily() {
        PoolDesk x = new PoolDesk();
        Due.fill(x, 100, 38, 20, 10);
        Due.comes(x, 1, 10, 10, 1, 9, 0);
        Due.comes(x, 2, 5, 5, 1, 1, 0);
        Due.is("the child came last", Due.enter(x, 3, 20, 10, 1, 9, 1), 0);
        Due.areIn(x, 1);
        Due.areGone(x, 2);
        Due.is("drop 1", Due.named(x, 1).drop(), 1);
        Due.comes(x, 5, 5, 5, 1, 4, 0);
        Due.is("the parent came last", Due.enter(x, 4, 10, 10, 1, 9, 2), 5);
        Due.areGone(x, 4, 5);
        Due.is("count", x.count(0), 39);
    }

    private static void feesOfZeroAreLike() {
        PoolDesk x = new PoolDesk();
        Due.fill(x, 100, 37, 1, 2000);
        Due.comes(x, 1, 0, 2000, 1, 9, 0);
        Due.comes(x, 2, 0, 1, 1, 9, 1);
        Due.comes(x, 3, 0, 1000, 1, 9, 2);
        Due.is("another zero", Due.enter(x, 4, 0, 1, 1, 9, 3), 5);
        Due.is("a better one", Due.enter(x, 5, 1, 2000, 1, 9, 4), 0);
        Due.areGone(x, 3);
        Due.is("a second", Due.enter(x, 6, 1, 2000, 1, 9, 5), 0);
        Due.areGone(x, 2);
        Due.areIn(x, 1, 5, 6);
    }

    private static void familyGoesToo() {
        PoolDesk x = new PoolDesk();
        Due.fill(x, 100, 36, 10, 10);
        Due.comes(x, 1, 0, 100, 2, 9, 0);
        Due.comes(x, 2, 50, 10, 1, 1, 0);
        Due.comes(x, 3, 10, 10, 1, 1, 1);
        Due.comes(x, 4, 10, 10, 1, 2, 0, 3, 0);
        Due.is("a stranger", Due.enter(x, 5, 10, 10, 1, 9, 1), 0);
        Due.areGone(x, 1, 2, 3, 4);
        Due.counts(x, 37, 37, 370, 0, 41);
        Due.is("fees", x.fees(), 370);
    }

    private static void allMayGo() {
        PoolDesk x = new PoolDesk();
        Due.comes(x, 1, 0, 10, 1, 500, 0);
        Due.chain(x, 1, 2, 40, 10, 10);
        Due.is("the end of the chain", Due.enter(x, 41, 10, 10, 1, 40, 0), 5);
        Due.counts(x, 0, 0, 0, 0, 41);
        Due.is("fees", x.fees(), 0);
        Due.comes(x, 41, 5, 5, 1, 40, 0);
        Due.looks(x, 41, 5, 5, 1, 1, 0, 0, 1, 5, 5, 42);
    }

    private static void newcomerGoes() {
        PoolDesk x = new PoolDesk();
        Due.fill(x, 100, 40, 10, 10);
        Due.is("pays less", Due.enter(x, 60, 99, 100, 1, 9, 1), 5);
        Due.is("not in the pool", x.look(0), -1);
        Due.counts(x, 40, 40, 400, 0, 41);
        Due.is("its key is free", Due.named(x, 9).strike(1), 0);
        Due.is("pays more", Due.enter(x, 61, 101, 100, 1, 9, 1), 0);
        Due.is("its coming", x.look(9), 42);
        Due.areGone(x, 139);
    }

    private static void newcomerGoesWithItsParent() {
        PoolDesk x = new PoolDesk();
        Due.fill(x, 100, 39, 10, 10);
        Due.comes(x, 1, 0, 1000, 2, 9, 0);
        Due.is("a child that pays well, yet too little", Due.enter(x, 2, 500, 10, 1, 1, 0), 5);
        Due.counts(x, 39, 39, 390, 0, 41);
        Due.areGone(x, 1, 2);
    }

    private static void newcomerTakesItsChildAlong() {
        PoolDesk x = new PoolDesk();
        Due.comes(x, 2, 10, 10, 1, 1, 0);
        Due.fill(x, 100, 39, 10, 10);
        Due.is("a poor parent", Due.enter(x, 1, 0, 10, 1, 9, 0), 5);
        Due.counts(x, 39, 39, 390, 0, 41);
        Due.areGone(x, 1, 2);
    }

    private static void newcomerStaysWithoutItsChild() {
        PoolDesk x = new PoolDesk();
        Due.comes(x, 2, 1, 10, 1, 1, 0);
        Due.fill(x, 100, 39, 10, 10);
        Due.is("a good parent of a poor child", Due.enter(x, 1, 20, 10, 1, 9, 0), 0);
        Due.areGone(x, 2);
        Due.looks(x, 1, 20, 10, 1, 1, 0, 0, 1, 20, 10, 41);
    }

    private static void newcomerStaysWithItsParent() {
        PoolDesk x = new PoolDesk();
        Due.comes(x, 1, 10, 10, 1, 9, 0);
        Due.fill(x, 100, 38, 10, 10);
        Due.comes(x, 50, 9, 10, 1, 9, 1);
        Due.is("a good child", Due.enter(x, 2, 20, 10, 1, 1, 0), 0);
        Due.areGone(x, 50);
        Due.areIn(x, 1, 2);
        Due.is("a poor child", Due.enter(x, 3, 1, 10, 1, 2, 0), 5);
        Due.areIn(x, 1, 2);
        Due.is("children of 2", Due.named(x, 2).look(5), 0);
    }

    // The mean of the two rates of 1 and 2 is above 10 by 10, the rate of both together is below it.
    private static void rateIsOfSums() {
        PoolDesk x = new PoolDesk();
        Due.fill(x, 100, 39, 10, 10);
        Due.comes(x, 1, 100, 1000, 1, 9, 0);
        Due.is("a child", Due.enter(x, 2, 10, 1, 1, 1, 0), 5);
        Due.areGone(x, 1, 2);
        Due.comes(x, 3, 5, 10, 1, 9, 0);
        Due.is("a child that pays enough", Due.enter(x, 4, 16, 10, 1, 3, 0), 0);
        Due.areIn(x, 3, 4);
        Due.areGone(x, 138);
    }

    // The products of these fees and sizes are above 2 ^ 63.
    private static void rateIsExactForLargeFamilies() {
        PoolDesk x = new PoolDesk();
        Due.comes(x, 1, MOST_FEE - 1, 2000, 1, 500, 0);
        Due.chain(x, 1, 2, 20, MOST_FEE, 2000);
        Due.chain(x, 501, 21, 40, MOST_FEE, 2000);
        Due.is("one more", Due.enter(x, 60, MOST_FEE, 1, 1, 502, 0), 0);
        Due.is("the chain with one coin less is gone", x.count(0), 21);
        Due.areIn(x, 21, 40, 60);
        Due.is("fees", x.fees(), 21 * MOST_FEE);
    }

    // A double can't tell these rates apart.
    private static void rateIsExactInSmallParts() {
        long whole = 1_050_000_000_000L;
        PoolDesk x = new PoolDesk();
        Due.fill(x, 100, 38, MOST_FEE, 1);
        Due.comes(x, 1, 1999 * whole - 1, 1999, 1, 9, 0);
        Due.comes(x, 2, 2000 * whole - 1, 2000, 1, 9, 1);
        Due.is("one more", Due.enter(x, 3, MOST_FEE, 1, 1, 9, 2), 0);
        Due.areGone(x, 1);
        Due.areIn(x, 2);
    }

    private static void rateIsNoWholeNumber() {
        PoolDesk x = new PoolDesk();
        Due.fill(x, 100, 38, 1, 3);
        Due.comes(x, 1, 1, 4, 1, 9, 0);
        Due.comes(x, 2, 2, 7, 1, 9, 1);
        Due.is("one more", Due.enter(x, 3, 3, 9, 1, 9, 2), 0);
        Due.areGone(x, 1);
        Due.is("another", Due.enter(x, 4, 3, 9, 1, 9, 3), 0);
        Due.areGone(x, 2);
        Due.areIn(x, 3, 4, 137);
    }
}
