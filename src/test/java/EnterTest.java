/** Promise 4: what may be entered at all, and what becomes of the keys. */
public final class EnterTest {
    public static void main(String[] args) {
        Due.says("a FEE (0 .. 21 * 10 ^ 14)", EnterTest::feeHasBounds);
        Due.says("a SIZE (1 .. 2000)", EnterTest::sizeHasBounds);
        Due.says("how many OUTPUTS it has (0 .. 8)", EnterTest::outputsHaveBounds);
        Due.says("1 .. 8 different keys that it SPENDS", EnterTest::oneToEightKeys);
        Due.says("A transaction with the name in hand and the keys that were told enters",
            EnterTest::whatWasToldEnters);
        Due.says("there are no keys then, whatever is answered",
            EnterTest::keysGoWhateverIsAnswered, EnterTest::keysGoWithAnswerFive);
        Due.says("-1, refused (the keys stay)", EnterTest::keysStayIfRefused);
        Due.says("if there are no keys", EnterTest::refusedWithoutKeys);
        Due.says("or fee, size or outputs are not as said", EnterTest::refusedBeforeAnyOtherAnswer);
        Due.end();
    }

    private static void isRefused(long fee, int size, int outputs) {
        String call = "enter " + fee + " " + size + " " + outputs;
        PoolDesk x = new PoolDesk();
        Due.tell(x, 9, 0);
        Due.is(call, Due.named(x, 1).enter(fee, size, outputs), -1);
        Due.counts(x, 0, 0, 0, 1, 0);
        Due.is("the key stays after " + call, x.enter(0, 1, 0), 0);
        Due.is("it is the first to come", x.look(9), 1);
    }

    private static void comesIn(long fee, int size, int outputs) {
        PoolDesk x = new PoolDesk();
        Due.comes(x, 1, fee, size, outputs, 9, 0);
        Due.looks(x, 1, fee, size, outputs, 1, 0, 0, 1, fee, size, 1);
    }

    private static void feeHasBounds() {
        long[] good = {0, 1, Integer.MAX_VALUE, 1L << 31, 1L << 32, Due.MOST_FEE - 1, Due.MOST_FEE};
        long[] bad = {-1, -Due.MOST_FEE, Long.MIN_VALUE, Due.MOST_FEE + 1, 1L << 62, Long.MAX_VALUE};
        for (long fee : good) {
            comesIn(fee, 10, 1);
        }
        for (long fee : bad) {
            isRefused(fee, 10, 1);
        }
    }

    private static void sizeHasBounds() {
        int[] good = {1, 2, 255, 256, 1999, 2000};
        int[] bad = {0, -1, -2000, Integer.MIN_VALUE, 2001, 65537, Integer.MAX_VALUE};
        for (int size : good) {
            comesIn(5, size, 1);
        }
        for (int size : bad) {
            isRefused(5, size, 1);
        }
    }

    private static void outputsHaveBounds() {
        int[] bad = {-1, -8, Integer.MIN_VALUE, 9, 256, 65536, Integer.MAX_VALUE};
        for (int outputs = 0; outputs <= 8; outputs++) {
            comesIn(5, 10, outputs);
        }
        for (int outputs : bad) {
            isRefused(5, 10, outputs);
        }
        isRefused(-1, 0, -1);
        isRefused(Due.MOST_FEE + 1, 2001, 9);
    }

    private static void oneToEightKeys() {
        PoolDesk x = new PoolDesk();
        for (int keys = 1; keys <= 8; keys++) {
            for (int k = 0; k < keys; k++) {
                Due.tell(x, 10 * keys, k);
            }
            Due.is("enter with " + keys, Due.named(x, keys).enter(1, 1, 1), 0);
            Due.is("keys that it spends", x.look(3), keys);
        }
        Due.is("keys of all", x.count(1), 36);
    }

    private static void whatWasToldEnters() {
        PoolDesk x = new PoolDesk();
        Due.tell(x, 9, 0, 8, 1);
        x.name(1, 2, 3, 4);
        Due.is("enter", x.enter(30, 20, 2), 0);
        Due.is("fee", x.look(0), 30);
        Due.is("size", x.look(1), 20);
        Due.is("outputs", x.look(2), 2);
        Due.is("keys", x.look(3), 2);
        Due.comes(x, 5, 1, 1, 1, 7, 0);
        Due.is("keys of the one before are not told again", x.look(3), 1);
        Due.is("strike 8:1", Due.named(x, 8).strike(1), 1);
        Due.areIn(x, 5);
    }

    private static void keysGoWhateverIsAnswered() {
        PoolDesk x = new PoolDesk();
        long[][] keys = {{9, 0}, {9, 1}, {9, 0}, {1, 2}, {3, 0}};
        long[] own = {1, 1, 3, 3, 3};
        for (int n = 0; n < keys.length; n++) {
            Due.is("answer " + n, Due.enter(x, own[n], 1, 1, 2, keys[n]), n);
            Due.counts(x, 1, 1, 1, 0, 1);
            Due.is("enter again", x.enter(1, 1, 2), -1);
            Due.is("the same key can be told after " + n, Due.named(x, keys[n][0]).spend((int) keys[n][1]), true);
            Due.is("and goes", Due.named(x, 1).enter(1, 1, 2), 1);
        }
    }

    private static void keysGoWithAnswerFive() {
        PoolDesk x = new PoolDesk();
        Due.fill(x, 100, 40, 10, 10);
        Due.is("pays less", Due.enter(x, 60, 0, 10, 1, 9, 1, 9, 2), 5);
        Due.is("keys in hand", x.count(3), 0);
        Due.is("enter again", x.enter(1, 1, 2), -1);
    }

    private static void keysStayIfRefused() {
        PoolDesk x = new PoolDesk();
        Due.tell(x, 9, 0, 8, 0, 7, 0);
        Due.named(x, 1);
        Due.is("a bad fee", x.enter(-1, 1, 1), -1);
        Due.is("a bad size", x.enter(1, 0, 1), -1);
        Due.is("bad outputs", x.enter(1, 1, 9), -1);
        Due.is("keys in hand", x.count(3), 3);
        Due.is("a key that is still told", Due.named(x, 8).spend(0), false);
        Due.is("one more", x.spend(1), true);
        Due.is("enter", Due.named(x, 1).enter(1, 1, 1), 0);
        Due.is("keys", x.look(3), 4);
        Due.is("strike 7:0", Due.named(x, 7).strike(0), 1);
    }

    private static void refusedWithoutKeys() {
        PoolDesk x = new PoolDesk();
        Due.is("a new object", x.enter(1, 1, 1), -1);
        Due.comes(x, 1, 10, 20, 3, 9, 0);
        Due.is("a name that is there", x.enter(1, 1, 1), -1);
        Due.is("a new name", Due.named(x, 2).enter(1, 1, 1), -1);
        Due.is("bad numbers too", x.enter(-1, 0, 9), -1);
        Due.counts(x, 1, 1, 20, 0, 1);
        Due.looks(x, 1, 10, 20, 3, 1, 0, 0, 1, 10, 20, 1);
    }

    private static void refusedBeforeAnyOtherAnswer() {
        PoolDesk x = new PoolDesk();
        Due.comes(x, 1, 10, 20, 3, 9, 0);
        long[][] keys = {{8, 0}, {9, 0}, {1, 3}, {3, 0}};
        long[] own = {1, 3, 3, 3};
        for (int n = 0; n < keys.length; n++) {
            Due.tell(x, keys[n]);
            Due.named(x, own[n]);
            Due.is("a bad fee", x.enter(Due.MOST_FEE + 1, 1, 1), -1);
            Due.is("a bad size", x.enter(1, 2001, 1), -1);
            Due.is("bad outputs", x.enter(1, 1, -1), -1);
            Due.is("else the answer is " + (n + 1), x.enter(1, 1, 1), n + 1);
        }
        Due.counts(x, 1, 1, 20, 0, 1);
    }
}
