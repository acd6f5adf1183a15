/** What "Terms" says of ENTERING, up to answer 4. */
public final class EnteringTest {
    private static final int[] FAR = {Integer.MIN_VALUE, -256, -8, -1, 0, 1, 2, 3, 4, 5, 6, 7, 8, 9, 255, 256, 65536,
        Integer.MAX_VALUE};

    public static void main(String[] args) {
        Due.says("ENTERING, the first of these that is so",
            EnteringTest::firstReasonAnswers, EnteringTest::reasonsGoBeforeTheCrowd);
        Due.says("1 there is one of that name in the pool",
            EnteringTest::sameName, EnteringTest::namesThatLeftAreFree);
        Due.says("2 another one in the pool spends one of its keys",
            EnteringTest::anyKeyOfAny, EnteringTest::keysThatLeftAreFree);
        Due.says("3 it spends a key with the name of one in the pool and an index that is not 0 .. its outputs - 1",
            EnteringTest::missingOutputOfAParent);
        Due.says("3 it spends a key with the name of one in the pool", EnteringTest::anyIndexOfAStranger);
        Due.says("or has an output that is spent so: one in the pool spends a key of its name and an index"
            + " that is not 0 .. its outputs - 1",
            EnteringTest::missingOutputOfTheNewcomer);
        Due.says("4 it would hang on itself: it spends a key of its own name", EnteringTest::keyOfItsOwnName);
        Due.says("or of that of one of its family",
            EnteringTest::circlesOfAllLengths, EnteringTest::circleOnOneSideOfADiamond,
            EnteringTest::othersThanItsFamilyAreFine);
        Due.says("else it comes into the pool", EnteringTest::nothingComesWithAReason);
        Due.says("In the pool no two have one name, or spend one key.", EnteringTest::noTwoAlike);
        Due.end();
    }

    /** 1 and its key 9:0 are in the pool; 5 is not, but 2 spends 5:3 and 3 spends 5:0. Each has one output. */
    private static PoolDesk crossed() {
        PoolDesk x = new PoolDesk();
        Due.comes(x, 1, 1, 1, 1, 9, 0);
        Due.comes(x, 2, 1, 1, 1, 5, 3);
        Due.comes(x, 3, 1, 1, 1, 5, 0);
        return x;
    }

    private static void firstReasonAnswers() {
        PoolDesk x = crossed();
        Due.is("1 before 2", Due.enter(x, 1, 1, 1, 1, 9, 0), 1);
        Due.is("1 before 3", Due.enter(x, 1, 1, 1, 1, 2, 8), 1);
        Due.is("1 before 4", Due.enter(x, 1, 1, 1, 1, 1, 0), 1);
        Due.is("1 before all", Due.enter(x, 1, 1, 1, 1, 9, 0, 2, 8, 1, 0), 1);
        Due.is("2 before 3", Due.enter(x, 6, 1, 1, 1, 9, 0, 1, 4), 2);
        Due.is("2 before 3, told the other way", Due.enter(x, 6, 1, 1, 1, 1, 4, 9, 0), 2);
        Due.is("2 before 3 by its own outputs", Due.enter(x, 5, 1, 1, 1, 9, 0), 2);
        Due.is("2 before 4", Due.enter(x, 6, 1, 1, 1, 6, 0, 9, 0), 2);
        Due.is("2 before 4 by one key", Due.enter(x, 5, 1, 1, 4, 5, 0), 2);
        Due.is("2 before 4 by its family", Due.enter(x, 5, 1, 1, 4, 3, 0, 9, 0), 2);
        Due.is("3 before 4", Due.enter(x, 6, 1, 1, 1, 6, 0, 1, 4), 3);
        Due.is("3 before 4 by its own outputs", Due.enter(x, 5, 1, 1, 1, 5, 1), 3);
        Due.is("3 before 4 by one key", Due.enter(x, 5, 1, 1, 4, 3, 1), 3);
        Due.is("4 at last", Due.enter(x, 5, 1, 1, 4, 3, 0), 4);
        Due.counts(x, 3, 3, 3, 0, 3);
    }

    private static void reasonsGoBeforeTheCrowd() {
        PoolDesk x = new PoolDesk();
        Due.fill(x, 100, 39, 10, 10);
        Due.comes(x, 1, 10, 10, 1, 9, 0);
        Due.is("1", Due.enter(x, 1, 0, 10, 1, 8, 0), 1);
        Due.is("2", Due.enter(x, 2, 0, 10, 1, 9, 0), 2);
        Due.is("3", Due.enter(x, 2, 0, 10, 1, 1, 1), 3);
        Due.is("4", Due.enter(x, 2, 0, 10, 1, 2, 0), 4);
        Due.is("nor does a rich one push another out", Due.enter(x, 2, 1000, 10, 1, 2, 0), 4);
        Due.counts(x, 40, 40, 400, 0, 40);
        Due.is("5 at last", Due.enter(x, 2, 0, 10, 1, 8, 0), 5);
    }

    private static void sameName() {
        PoolDesk x = new PoolDesk();
        Due.comes(x, 1, 10, 20, 3, 9, 0);
        Due.comes(x, 2, 11, 21, 3, 9, 1);
        Due.is("same name, other keys", Due.enter(x, 1, 1, 1, 1, 9, 2), 1);
        Due.is("same name, same keys", Due.enter(x, 2, 11, 21, 3, 9, 1), 1);
        Due.looks(x, 1, 10, 20, 3, 1, 0, 0, 1, 10, 20, 1);
        for (int w = 1; w < 4; w++) {
            Due.tell(x, 9, 10 + w);
            x.name(1, w == 1 ? 1 : 0, w == 2 ? 1 : 0, w == 3 ? 1 : 0);
            Due.is("a name that differs in number " + w, x.enter(1, 1, 1), 0);
        }
    }

    private static void namesThatLeftAreFree() {
        PoolDesk x = new PoolDesk();
        Due.comes(x, 1, 10, 20, 3, 9, 0);
        Due.is("take", x.take(), true);
        Due.comes(x, 1, 11, 20, 3, 9, 1);
        Due.is("drop", x.drop(), 1);
        Due.comes(x, 1, 12, 20, 3, 9, 2);
        Due.is("strike", Due.named(x, 9).strike(2), 1);
        Due.comes(x, 1, 13, 20, 3, 9, 3);
        Due.looks(x, 1, 13, 20, 3, 1, 0, 0, 1, 13, 20, 4);
    }

    private static void eightKeys(PoolDesk x, long of, int shared) {
        for (int k = 0; k < 8; k++) {
            Due.tell(x, k == shared ? 9 : of, k == shared ? 0 : k);
        }
    }

    private static void anyKeyOfAny() {
        for (int k = 0; k < 8; k++) {
            PoolDesk x = new PoolDesk();
            Due.comes(x, 1, 1, 1, 1, 7, 0);
            eightKeys(x, 20, k);
            Due.is("enter 2", Due.named(x, 2).enter(1, 1, 1), 0);
            for (int m = 0; m < 8; m++) {
                eightKeys(x, 30, m);
                Due.is("key " + m + " is its key " + k, Due.named(x, 3).enter(1, 1, 1), 2);
            }
            Due.is("another index", Due.enter(x, 3, 1, 1, 1, 9, 1), 0);
            Due.is("another name", Due.enter(x, 4, 1, 1, 1, 10, 0), 0);
        }
    }

    private static void keysThatLeftAreFree() {
        PoolDesk x = new PoolDesk();
        Due.comes(x, 1, 1, 1, 1, 9, 0, 9, 1, 9, 2);
        Due.is("drop", x.drop(), 1);
        Due.comes(x, 2, 1, 1, 1, 9, 0);
        Due.comes(x, 3, 1, 1, 1, 9, 2);
        Due.is("take", x.take(), true);
        Due.comes(x, 4, 1, 1, 1, 9, 2, 9, 1);
        Due.is("2 still spends its own", Due.enter(x, 5, 1, 1, 1, 9, 0), 2);
        Due.is("what was refused is not spent", Due.enter(x, 5, 1, 1, 1, 9, 0, 8, 0), 2);
        Due.comes(x, 5, 1, 1, 1, 8, 0);
    }

    private static void missingOutputOfAParent() {
        for (int outputs = 0; outputs <= 8; outputs++) {
            for (int index : FAR) {
                PoolDesk x = new PoolDesk();
                int due = index >= 0 && index < outputs ? 0 : 3;
                Due.comes(x, 7, 1, 1, 8, 9, 0);
                Due.comes(x, 1, 1, 1, outputs, 9, 1);
                Due.is("1:" + index + " of " + outputs, Due.enter(x, 2, 1, 1, 8, 9, 2, 7, 0, 1, index), due);
                Due.is("1:" + index + ", with no outputs", Due.enter(x, 3, 1, 1, 0, 1, index), due == 0 ? 2 : 3);
            }
        }
    }

    private static void anyIndexOfAStranger() {
        for (int index : FAR) {
            PoolDesk x = new PoolDesk();
            Due.comes(x, 1, 1, 1, 0, 9, index);
            Due.comes(x, 2, 1, 1, 1, 8, 0);
            Due.is("take 2", x.take(), true);
            Due.is("of one that has left", Due.enter(x, 3, 1, 1, 1, 2, index), 0);
            Due.is("it comes back", Due.enter(x, 2, 1, 1, 1, 8, 0), index == 0 ? 0 : 3);
        }
    }

    private static void missingOutputOfTheNewcomer() {
        for (int outputs = 0; outputs <= 8; outputs++) {
            for (int index : FAR) {
                PoolDesk x = new PoolDesk();
                int due = index >= 0 && index < outputs ? 0 : 3;
                Due.comes(x, 7, 1, 1, 8, 9, 0);
                Due.comes(x, 2, 1, 1, outputs == 8 ? 0 : 8, 9, 1, 1, index);
                Due.is("1:" + index + " of " + outputs, Due.enter(x, 1, 1, 1, outputs, 9, 2), due);
                Due.is("children", Due.named(x, 1).look(5), due == 0 ? 1 : -1);
            }
        }
    }

    private static void keyOfItsOwnName() {
        for (int index : FAR) {
            PoolDesk x = new PoolDesk();
            Due.is("alone 1:" + index, Due.enter(x, 1, 1, 1, 2, 1, index), 4);
            Due.is("without outputs", Due.enter(x, 1, 1, 1, 0, 1, index), 4);
            for (int k = 0; k < 7; k++) {
                Due.tell(x, 9, k);
            }
            Due.is("as the eighth key", Due.enter(x, 1, 1, 1, 8, 1, index), 4);
            Due.counts(x, 0, 0, 0, 0, 0);
        }
    }

    private static void circlesOfAllLengths() {
        for (int length = 1; length <= 40; length++) {
            PoolDesk x = new PoolDesk();
            Due.chain(x, 500, 1, length, 1, 1);
            Due.is("a circle behind " + length, Due.enter(x, 500, 1, 1, 1, length, 0), 4);
            Due.is("as the second key", Due.enter(x, 500, 1, 1, 1, 600, 0, length, 0), 4);
            Due.counts(x, length, length, length, 0, length);
        }
    }

    private static void circleOnOneSideOfADiamond() {
        PoolDesk x = Due.diamond();
        Due.is("take 1", Due.named(x, 1).take(), true);
        Due.is("1 on its grandchild", Due.enter(x, 1, 1, 1, 2, 9, 5, 4, 0), 4);
        Due.is("take 2", Due.named(x, 2).take(), true);
        Due.is("1 on its grandchild by 3 alone", Due.enter(x, 1, 1, 1, 2, 4, 0), 4);
        Due.is("take 3", Due.named(x, 3).take(), true);
        Due.is("none hangs on 1 any more", Due.enter(x, 1, 1, 1, 2, 4, 0), 0);
        Due.is("2 between them", Due.enter(x, 2, 1, 1, 1, 1, 0), 4);
        Due.is("2 on a stranger", Due.enter(x, 2, 1, 1, 1, 8, 0), 0);
        Due.is("the family of 2", x.look(6), 3);
    }

    private static void othersThanItsFamilyAreFine() {
        PoolDesk x = new PoolDesk();
        Due.comes(x, 1, 1, 1, 2, 9, 0);
        Due.comes(x, 2, 1, 1, 1, 1, 0, 3, 0);
        Due.comes(x, 4, 1, 1, 1, 9, 1);
        Due.is("3 on another parent of its child", Due.enter(x, 3, 1, 1, 1, 1, 1, 4, 0), 0);
        Due.is("its parents", x.look(4), 2);
        Due.is("its family", x.look(6), 2);
        Due.is("the family of 1", Due.named(x, 1).look(6), 3);
    }

    private static void nothingComesWithAReason() {
        PoolDesk x = crossed();
        Due.comes(x, 4, 50, 60, 2, 1, 0);
        Due.looks(x, 4, 50, 60, 2, 1, 1, 0, 1, 50, 60, 4);
        Due.is("2", Due.enter(x, 6, 1, 1, 1, 9, 0), 2);
        Due.is("3", Due.enter(x, 6, 1, 1, 1, 1, 4), 3);
        Due.is("4", Due.enter(x, 6, 1, 1, 1, 6, 4), 4);
        Due.areGone(x, 6);
        Due.counts(x, 4, 4, 63, 0, 4);
        Due.is("fees", x.fees(), 53);
        Due.is("children of 1", Due.named(x, 1).look(5), 1);
        Due.comes(x, 6, 1, 1, 1, 9, 1);
        Due.is("its coming", x.look(9), 5);
    }

    private static void noTwoAlike() {
        PoolDesk x = new PoolDesk();
        Due.comes(x, 1, 1, 1, 1, 9, 0);
        Due.is("one name", Due.enter(x, 1, 1, 1, 1, 9, 1), 1);
        Due.is("one key", Due.enter(x, 2, 1, 1, 1, 9, 0), 2);
        Due.counts(x, 1, 1, 1, 0, 1);
        Due.is("strike", Due.named(x, 9).strike(0), 1);
        Due.is("there was no other", x.strike(0), 0);
        Due.is("nor of that name", Due.named(x, 1).take(), false);
    }
}
