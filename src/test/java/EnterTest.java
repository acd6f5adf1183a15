/** Promise 4, and what ENTERING says up to answer 4. */
public final class EnterTest {
    private static final long MOST_FEE = 2_100_000_000_000_000L;

    public static void main(String[] args) {
        limitsOfFeeSizeOutputs();
        refusedChangesNothing();
        keysGoWhateverIsAnswered();
        sameName();
        spentKey();
        spentKeyHasAWholeName();
        missingOutputOfParent();
        missingOutputOfNewcomer();
        hangsOnItself();
        hangsThroughFamily();
        familyWithoutCircleIsFine();
        firstReasonAnswers();
        parentMayComeLater();
        Due.end();
    }

    private static void limitsOfFeeSizeOutputs() {
        PoolDesk x = new PoolDesk();
        Due.tell(x, 9, 0);
        Due.named(x, 1);
        long[][] bad = {{-1, 1, 0}, {Long.MIN_VALUE, 1, 0}, {MOST_FEE + 1, 1, 0}, {Long.MAX_VALUE, 1, 0},
            {0, 0, 0}, {0, -1, 0}, {0, Integer.MIN_VALUE, 0}, {0, 2001, 0}, {0, Integer.MAX_VALUE, 0},
            {0, 1, -1}, {0, 1, 9}, {0, 1, Integer.MIN_VALUE}, {0, 1, Integer.MAX_VALUE}};
        for (long[] b : bad) {
            Due.is("enter " + b[0] + " " + b[1] + " " + b[2], x.enter(b[0], (int) b[1], (int) b[2]), -1);
            Due.is("keys stay", x.count(3), 1);
        }
        Due.is("least", x.enter(0, 1, 0), 0);
        Due.is("most", Due.enter(x, 2, MOST_FEE, 2000, 8, 9, 1), 0);
        Due.is("fee", x.look(0), MOST_FEE);
        Due.is("size", x.look(1), 2000);
        Due.is("outputs", x.look(2), 8);
    }

    private static void refusedChangesNothing() {
        PoolDesk x = new PoolDesk();
        Due.comes(x, 1, 10, 20, 3, 9, 0);
        Due.is("no keys", x.enter(1, 1, 1), -1);
        Due.is("no keys, another name", Due.named(x, 2).enter(1, 1, 1), -1);
        Due.tell(x, 9, 1);
        Due.is("a bad fee and a name that is there", Due.named(x, 1).enter(-1, 1, 1), -1);
        Due.is("count", x.count(0), 1);
        Due.is("keys spent", x.count(1), 1);
        Due.is("came", x.count(4), 1);
        Due.is("fee", x.look(0), 10);
        Due.is("the key that stayed", Due.named(x, 2).enter(1, 1, 1), 0);
        Due.is("the name in hand stays", x.look(9), 2);
    }

    private static void keysGoWhateverIsAnswered() {
        PoolDesk x = new PoolDesk();
        long[][] keys = {{9, 0}, {9, 1}, {9, 0}, {1, 2}, {3, 0}};
        long[] own = {1, 1, 3, 3, 3};
        for (int n = 0; n < keys.length; n++) {
            Due.is("answer " + n, Due.enter(x, own[n], 1, 1, 2, keys[n]), n);
            Due.is("keys after " + n, x.count(3), 0);
            Due.is("in the pool after " + n, x.count(0), 1);
            Due.is("came after " + n, x.count(4), 1);
        }
    }

    private static void sameName() {
        PoolDesk x = new PoolDesk();
        Due.comes(x, 1, 10, 20, 3, 9, 0);
        Due.is("same name", Due.enter(x, 1, 1, 1, 1, 9, 1), 1);
        Due.is("the old one stays", x.look(0), 10);
        Due.is("take", x.take(), true);
        Due.comes(x, 1, 11, 20, 3, 9, 0);
        Due.is("the new one", x.look(0), 11);
        Due.is("its coming", x.look(9), 2);
    }

    private static void spentKey() {
        PoolDesk x = new PoolDesk();
        Due.comes(x, 1, 10, 20, 3, 9, 0, 9, 1, 8, 5);
        Due.is("last of three", Due.enter(x, 2, 1, 1, 1, 7, 0, 8, 5), 2);
        Due.is("middle", Due.enter(x, 2, 1, 1, 1, 9, 1), 2);
        Due.is("another index", Due.enter(x, 2, 1, 1, 1, 9, 2), 0);
        Due.is("another name", Due.enter(x, 3, 1, 1, 1, 7, 5), 0);
        Due.is("drop 1", Due.named(x, 1).drop(), 1);
        Due.is("free again", Due.enter(x, 4, 1, 1, 1, 9, 1), 0);
    }

    private static void spentKeyHasAWholeName() {
        PoolDesk x = new PoolDesk();
        long[][] names = {{5, 6, 7, 8}, {4, 6, 7, 8}, {5, 4, 7, 8}, {5, 6, 4, 8}, {5, 6, 7, 4}};
        for (int round = 0; round < 2; round++) {
            for (int n = 0; n < names.length; n++) {
                x.name(names[n][0], names[n][1], names[n][2], names[n][3]);
                Due.is("spend", x.spend(0), true);
                Due.named(x, 100 + 10 * round + n);
                Due.is("round " + round + ", key " + n, x.enter(1, 1, 1), round == 0 ? 0 : 2);
            }
        }
    }

    private static void missingOutputOfParent() {
        PoolDesk x = new PoolDesk();
        Due.comes(x, 1, 1, 1, 2, 9, 0);
        Due.is("1:-1", Due.enter(x, 2, 1, 1, 1, 1, -1), 3);
        Due.is("1:2", Due.enter(x, 2, 1, 1, 1, 9, 1, 1, 2), 3);
        Due.is("1:MAX", Due.enter(x, 2, 1, 1, 1, 1, Integer.MAX_VALUE), 3);
        Due.is("1:MIN", Due.enter(x, 2, 1, 1, 1, 1, Integer.MIN_VALUE), 3);
        Due.is("1:0 and 1:1", Due.enter(x, 2, 1, 1, 0, 1, 0, 1, 1), 0);
        Due.is("2:0, which has no outputs", Due.enter(x, 3, 1, 1, 0, 2, 0), 3);
    }

    private static void missingOutputOfNewcomer() {
        PoolDesk x = new PoolDesk();
        Due.comes(x, 2, 1, 1, 1, 1, 4);
        Due.comes(x, 3, 1, 1, 1, 5, -1);
        Due.is("1 with 4 outputs", Due.enter(x, 1, 1, 1, 4, 9, 0), 3);
        Due.is("1 with none", Due.enter(x, 1, 1, 1, 0, 9, 0), 3);
        Due.is("5 with a spent -1", Due.enter(x, 5, 1, 1, 8, 9, 0), 3);
        Due.is("1 with 5 outputs", Due.enter(x, 1, 1, 1, 5, 9, 0), 0);
        Due.is("its children", x.look(5), 1);
    }

    private static void hangsOnItself() {
        PoolDesk x = new PoolDesk();
        Due.is("an output of its own", Due.enter(x, 1, 1, 1, 2, 1, 0), 4);
        Due.is("no output of its own", Due.enter(x, 1, 1, 1, 2, 9, 0, 1, 7), 4);
        Due.is("a negative one of its own", Due.enter(x, 1, 1, 1, 2, 1, -1), 4);
        Due.is("nothing came", x.count(4), 0);
    }

    private static void hangsThroughFamily() {
        PoolDesk x = new PoolDesk();
        Due.comes(x, 2, 1, 1, 1, 1, 0);
        Due.is("a circle of two", Due.enter(x, 1, 1, 1, 1, 2, 0), 4);
        Due.comes(x, 3, 1, 1, 1, 2, 0);
        Due.comes(x, 4, 1, 1, 1, 3, 0);
        Due.is("a circle of four", Due.enter(x, 1, 1, 1, 1, 9, 0, 4, 0), 4);
        Due.is("take the middle", Due.named(x, 3).take(), true);
        Due.is("no circle without it", Due.enter(x, 1, 1, 1, 1, 4, 0), 0);
        Due.is("the middle comes back", Due.enter(x, 3, 1, 1, 1, 2, 0), 4);
        Due.is("on another key", Due.enter(x, 3, 1, 1, 1, 9, 0), 0);
        Due.is("the family of 3", x.look(6), 4);
    }

    private static void familyWithoutCircleIsFine() {
        PoolDesk x = new PoolDesk();
        Due.comes(x, 1, 1, 1, 2, 9, 0);
        Due.comes(x, 2, 1, 1, 1, 1, 0);
        Due.comes(x, 3, 1, 1, 1, 1, 1);
        Due.comes(x, 4, 1, 1, 1, 2, 0, 3, 0);
        Due.is("1 spends what 4 would be, taken and told anew", Due.named(x, 1).take(), true);
        Due.is("1 on a child's other family", Due.enter(x, 1, 1, 1, 2, 9, 5, 4, 0), 4);
        Due.is("1 on a stranger", Due.enter(x, 1, 1, 1, 2, 9, 5), 0);
    }

    private static void firstReasonAnswers() {
        PoolDesk x = new PoolDesk();
        Due.comes(x, 1, 1, 1, 1, 9, 0);
        Due.comes(x, 2, 1, 1, 1, 5, 3);
        Due.comes(x, 3, 1, 1, 1, 5, 0);
        Due.is("1 before 2, 3, 4", Due.enter(x, 1, 1, 1, 1, 9, 0, 2, 8, 1, 0), 1);
        Due.is("2 before 3, 4", Due.enter(x, 5, 1, 1, 1, 9, 0, 2, 8, 5, 0), 2);
        Due.is("2 before 3 in keys told later", Due.enter(x, 6, 1, 1, 1, 1, 4, 9, 0), 2);
        Due.is("3 before 4", Due.enter(x, 5, 1, 1, 1, 5, 1, 3, 0), 3);
        Due.is("3 before 4 by a parent's output", Due.enter(x, 5, 1, 1, 4, 5, 1, 3, 1), 3);
        Due.is("4 at last", Due.enter(x, 5, 1, 1, 4, 3, 0), 4);
    }

    private static void parentMayComeLater() {
        PoolDesk x = new PoolDesk();
        Due.comes(x, 2, 10, 1, 1, 1, 0);
        Due.comes(x, 3, 20, 1, 1, 1, 1);
        Due.is("no parent yet", x.look(4), 0);
        Due.comes(x, 1, 30, 1, 2, 9, 0);
        Due.is("children", x.look(5), 2);
        Due.is("family's fees", x.look(7), 60);
        Due.is("the parent of 2", Due.named(x, 2).look(4), 1);
    }
}
