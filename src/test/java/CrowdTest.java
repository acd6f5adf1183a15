/** Promise 4, what ENTERING says when there are more than 40: who goes, and answers 0 and 5. */
public final class CrowdTest {
    private static final long MOST_FEE = 2_100_000_000_000_000L;

    public static void main(String[] args) {
        fortyMayStay();
        leastPayingGoes();
        newcomerGoes();
        lastOfLikeOnesGoes();
        familyGoesToo();
        newcomerGoesWithItsParent();
        goodChildSavesItsParent();
        parentThatComesLaterTakesItsChildAlong();
        rateIsExactForLargeFamilies();
        rateIsExactInSmallParts();
        placesAreUsedAgain();
        Due.end();
    }

    private static void fortyMayStay() {
        PoolDesk x = new PoolDesk();
        Due.fill(x, 100, 40, 10, 10);
        Due.is("count", x.count(0), 40);
        Due.is("came", x.count(4), 40);
    }

    private static void leastPayingGoes() {
        PoolDesk x = new PoolDesk();
        Due.fill(x, 100, 20, 10, 10);
        Due.comes(x, 50, 99, 100, 1, 9, 0);
        Due.fill(x, 200, 19, 10, 10);
        Due.is("the one above", Due.enter(x, 60, 10, 10, 1, 9, 1), 0);
        Due.is("count", x.count(0), 40);
        Due.is("came", x.count(4), 41);
        Due.is("50 is gone", Due.inPool(x, 50), false);
        Due.is("60 is there", Due.inPool(x, 60), true);
        Due.is("9:0 is free", Due.named(x, 9).strike(0), 0);
    }

    private static void newcomerGoes() {
        PoolDesk x = new PoolDesk();
        Due.fill(x, 100, 40, 10, 10);
        Due.is("pays less", Due.enter(x, 60, 99, 100, 1, 9, 1), 5);
        Due.is("keys in hand", x.count(3), 0);
        Due.is("not in the pool", x.look(0), -1);
        Due.is("count", x.count(0), 40);
        Due.is("keys spent", x.count(1), 40);
        Due.is("it did come", x.count(4), 41);
        Due.is("pays more", Due.enter(x, 61, 101, 100, 1, 9, 1), 0);
        Due.is("its coming", x.look(9), 42);
        Due.is("139 came last of the like ones", Due.inPool(x, 139), false);
    }

    private static void lastOfLikeOnesGoes() {
        PoolDesk x = new PoolDesk();
        Due.fill(x, 100, 40, 10, 10);
        Due.is("like rate, other numbers", Due.enter(x, 60, 7, 7, 1, 9, 1), 5);
        Due.is("drop one that came early", Due.named(x, 103).drop(), 1);
        Due.comes(x, 300, 20, 20, 1, 9, 1);
        Due.is("a better one", Due.enter(x, 61, 100, 10, 1, 9, 2), 0);
        Due.is("the last of the like ones in an early place", Due.inPool(x, 300), false);
        Due.is("139 stays", Due.inPool(x, 139), true);
    }

    private static void familyGoesToo() {
        PoolDesk x = new PoolDesk();
        Due.fill(x, 100, 36, 10, 10);
        Due.comes(x, 1, 0, 100, 2, 9, 0);
        Due.comes(x, 2, 50, 10, 1, 1, 0);
        Due.comes(x, 3, 10, 10, 1, 1, 1);
        Due.comes(x, 4, 10, 10, 1, 2, 0, 3, 0);
        Due.is("a stranger", Due.enter(x, 5, 10, 10, 1, 9, 1), 0);
        Due.is("count", x.count(0), 37);
        for (long own = 1; own <= 4; own++) {
            Due.is("in pool " + own, Due.inPool(x, own), false);
        }
    }

    private static void newcomerGoesWithItsParent() {
        PoolDesk x = new PoolDesk();
        Due.fill(x, 100, 39, 10, 10);
        Due.comes(x, 1, 0, 1000, 2, 9, 0);
        Due.is("a child that pays well, yet too little", Due.enter(x, 2, 500, 10, 1, 1, 0), 5);
        Due.is("both are gone", x.count(0), 39);
        Due.is("came", x.count(4), 41);
        Due.is("1 is gone", Due.inPool(x, 1), false);
    }

    private static void goodChildSavesItsParent() {
        PoolDesk x = new PoolDesk();
        Due.fill(x, 100, 38, 10, 10);
        Due.comes(x, 50, 9, 10, 1, 9, 1);
        Due.comes(x, 1, 0, 1000, 2, 9, 0);
        Due.is("a child that pays for both", Due.enter(x, 2, 5000, 10, 1, 1, 0), 0);
        Due.is("1 stays", Due.inPool(x, 1), true);
        Due.is("50 is gone", Due.inPool(x, 50), false);
    }

    private static void parentThatComesLaterTakesItsChildAlong() {
        PoolDesk x = new PoolDesk();
        Due.comes(x, 2, 10, 10, 1, 1, 0);
        Due.fill(x, 100, 39, 10, 10);
        Due.is("a poor parent takes its child along", Due.enter(x, 1, 0, 10, 1, 9, 0), 5);
        Due.is("count", x.count(0), 39);
        Due.is("2 is gone", Due.inPool(x, 2), false);
    }

    // The products of these fees and sizes are above 2 ^ 63.
    private static void rateIsExactForLargeFamilies() {
        PoolDesk x = new PoolDesk();
        for (long own = 1; own <= 20; own++) {
            Due.comes(x, own, own == 1 ? MOST_FEE - 1 : MOST_FEE, 2000, 1, own == 1 ? 500 : own - 1, 0);
        }
        for (long own = 21; own <= 40; own++) {
            Due.comes(x, own, MOST_FEE, 2000, 1, own == 21 ? 501 : own - 1, 0);
        }
        Due.is("one more", Due.enter(x, 60, MOST_FEE, 1, 1, 502, 0), 0);
        Due.is("the chain with one coin less is gone", x.count(0), 21);
        Due.is("21 stays", Due.inPool(x, 21), true);
        Due.is("fees", x.fees(), 21 * MOST_FEE);
    }

    // A double can't tell these rates apart.
    private static void rateIsExactInSmallParts() {
        long whole = 1_050_000_000_000L;
        PoolDesk x = new PoolDesk();
        Due.fill(x, 100, 38, MOST_FEE, 1);
        Due.comes(x, 1, 1999 * whole - 1, 1999, 1, 9, 0);
        Due.comes(x, 2, 2000 * whole - 1, 2000, 1, 9, 1);
        Due.is("one more", Due.enter(x, 3, MOST_FEE, 1, 1, 9, 2), 0);
        Due.is("1 is gone", Due.inPool(x, 1), false);
        Due.is("2 stays", Due.inPool(x, 2), true);
    }

    private static void placesAreUsedAgain() {
        PoolDesk x = new PoolDesk();
        for (long own = 1; own <= 120; own++) {
            Due.comes(x, own, own, 1, 1, 1_000 + own, 0);
            Due.is("coming", x.look(9), own);
        }
        Due.is("count", x.count(0), 40);
        Due.is("fees", x.fees(), 40 * (81 + 120) / 2);
        Due.is("80 is gone", Due.inPool(x, 80), false);
        Due.is("81 is there", Due.inPool(x, 81), true);
    }
}
