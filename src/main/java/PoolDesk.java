/**
 * A pool of transactions that wait for a block: none spends what another one spends, each knows on
 * whom it hangs; the least paying ones go when there are too many, and the best paying ones are put
 * in order for a block.
 */
public final class PoolDesk {
    private static final int MOST_IN_POOL = 40;
    // One place more than may stay: the newcomer stands in the pool while the least paying is sought.
    private static final int PLACES = MOST_IN_POOL + 1;
    private static final int MOST_KEYS = 8;
    private static final int NAME_WORDS = 4;
    private static final long MOST_FEE = 2_100_000_000_000_000L;
    private static final int MOST_SIZE = 2000;
    private static final int MOST_OUTPUTS = 8;
    private static final int NOWHERE = -1;

    private static final int REFUSED = -1;
    private static final int CAME = 0;
    private static final int NAME_IN_POOL = 1;
    private static final int KEY_SPENT = 2;
    private static final int NO_SUCH_OUTPUT = 3;
    private static final int HANGS_ON_ITSELF = 4;
    private static final int WENT_AT_ONCE = 5;

    private final Name hand = new Name();
    private final Keys told = new Keys();
    private final Pool pool = new Pool();
    private final Row block = new Row();

    public PoolDesk() {
    }

    public void name(long a, long b, long c, long d) {
        hand.set(a, b, c, d);
    }

    public boolean spend(int index) {
        return told.add(hand, index);
    }

    public int enter(long fee, int size, int outputs) {
        if (told.held == 0 || !isTransaction(fee, size, outputs)) {
            return REFUSED;
        }
        int answer = pool.hindrance(hand, told, outputs);
        if (answer == CAME) {
            answer = letIn(fee, size, outputs);
        }
        told.clear();
        return answer;
    }

    public boolean take() {
        int place = pool.find(hand);
        if (place == NOWHERE) {
            return false;
        }
        pool.remove(bit(place));
        return true;
    }

    public int drop() {
        return removeFamily(pool.find(hand));
    }

    public int strike(int index) {
        return removeFamily(pool.findSpender(hand, index));
    }

    public long look(int what) {
        int place = pool.find(hand);
        if (place == NOWHERE) {
            return -1;
        }
        Transaction one = pool.places[place];
        switch (what) {
            case 0: return one.fee;
            case 1: return one.size;
            case 2: return one.outputs;
            case 3: return one.keys.held;
            case 4: return Long.bitCount(one.parents);
            case 5: return Long.bitCount(one.children);
            case 6: return Long.bitCount(pool.family(bit(place)));
            case 7: return pool.sumOfFees(pool.family(bit(place)));
            case 8: return pool.sumOfSizes(pool.family(bit(place)));
            case 9: return one.coming;
            default: return -1;
        }
    }

    public int order(int size) {
        block.clear();
        long done = 0;
        int room = size;
        for (int step = 0; step < PLACES; step++) {
            int best = pool.bestPaying(done, room);
            if (best == NOWHERE) {
                break;
            }
            Transaction one = pool.places[best];
            block.add(one.ownName);
            done |= bit(best);
            room -= one.size;
        }
        return block.length;
    }

    public long row(int k, int w) {
        return block.word(k, w);
    }

    public int count(int what) {
        switch (what) {
            case 0: return Long.bitCount(pool.present);
            case 1: return pool.sumOfKeys();
            case 2: return pool.sumOfSizes(pool.present);
            case 3: return told.held;
            case 4: return pool.came;
            default: return -1;
        }
    }

    public long fees() {
        return pool.sumOfFees(pool.present);
    }

    private static boolean isTransaction(long fee, int size, int outputs) {
        return fee >= 0 && fee <= MOST_FEE
            && size >= 1 && size <= MOST_SIZE
            && outputs >= 0 && outputs <= MOST_OUTPUTS;
    }

    private int letIn(long fee, int size, int outputs) {
        int place = pool.freePlace();
        if (place == NOWHERE) {
            return REFUSED;
        }
        pool.places[place].describe(fee, size, outputs);
        pool.settle(place, hand, told);
        if (Long.bitCount(pool.present) <= MOST_IN_POOL) {
            return CAME;
        }
        removeFamily(pool.leastPaying());
        return has(pool.present, place) ? CAME : WENT_AT_ONCE;
    }

    private int removeFamily(int place) {
        if (place == NOWHERE) {
            return 0;
        }
        long gone = pool.family(bit(place));
        pool.remove(gone);
        return Long.bitCount(gone);
    }

    // A set of places is a long: bit n stands for place n.

    private static long bit(int place) {
        return 1L << place;
    }

    private static boolean has(long set, int place) {
        return (set & bit(place)) != 0;
    }

    /** The lowest place of a set; 64 if the set is empty. */
    private static int lowest(long set) {
        return Long.bitCount((set & -set) - 1);
    }

    /**
     * Below 0, 0 or above 0 as the first rate is less than, like or greater than the second. Fees times
     * sizes can be more than a long holds, so whole parts are compared first and then what they leave.
     */
    private static int compareRates(long fees, long size, long otherFees, long otherSize) {
        if (size < 1 || otherSize < 1) {
            return 0;
        }
        int whole = Long.compare(fees / size, otherFees / otherSize);
        if (whole != 0) {
            return whole;
        }
        return Long.compare(fees % size * otherSize, otherFees % otherSize * size);
    }

    private static final class Name {
        long a;
        long b;
        long c;
        long d;

        void set(long first, long second, long third, long fourth) {
            a = first;
            b = second;
            c = third;
            d = fourth;
        }

        void write(long[] words, int at) {
            if (at < 0 || at > words.length - NAME_WORDS) {
                return;
            }
            words[at] = a;
            words[at + 1] = b;
            words[at + 2] = c;
            words[at + 3] = d;
        }

        boolean same(Name other) {
            return a == other.a && b == other.b && c == other.c && d == other.d;
        }
    }

    /** Up to eight different keys; the names' words lie side by side in one array to save objects. */
    private static final class Keys {
        final long[] words = new long[MOST_KEYS * NAME_WORDS];
        final int[] indexes = new int[MOST_KEYS];
        int held;

        void clear() {
            held = 0;
        }

        boolean add(Name name, int index) {
            if (held >= MOST_KEYS || contains(name, index)) {
                return false;
            }
            name.write(words, held * NAME_WORDS);
            indexes[held] = index;
            held++;
            return true;
        }

        void copy(Keys other) {
            System.arraycopy(other.words, 0, words, 0, MOST_KEYS * NAME_WORDS);
            System.arraycopy(other.indexes, 0, indexes, 0, MOST_KEYS);
            held = other.held;
        }

        boolean contains(Name name, int index) {
            for (int k = 0; k < held; k++) {
                if (indexes[k] == index && isOf(k, name)) {
                    return true;
                }
            }
            return false;
        }

        boolean containsOneOf(Keys other) {
            for (int k = 0; k < held; k++) {
                for (int m = 0; m < other.held; m++) {
                    if (indexes[k] == other.indexes[m] && sameName(k, other, m)) {
                        return true;
                    }
                }
            }
            return false;
        }

        boolean bears(Name name) {
            for (int k = 0; k < held; k++) {
                if (isOf(k, name)) {
                    return true;
                }
            }
            return false;
        }

        /** Whether a key has this name and an index that none of so many outputs has. */
        boolean misses(Name name, int outputs) {
            for (int k = 0; k < held; k++) {
                if ((indexes[k] < 0 || indexes[k] >= outputs) && isOf(k, name)) {
                    return true;
                }
            }
            return false;
        }

        private boolean isOf(int k, Name name) {
            int at = k * NAME_WORDS;
            return words[at] == name.a && words[at + 1] == name.b
                && words[at + 2] == name.c && words[at + 3] == name.d;
        }

        private boolean sameName(int k, Keys other, int m) {
            for (int w = 0; w < NAME_WORDS; w++) {
                if (words[k * NAME_WORDS + w] != other.words[m * NAME_WORDS + w]) {
                    return false;
                }
            }
            return true;
        }
    }

    private static final class Transaction {
        final Name ownName = new Name();
        final Keys keys = new Keys();
        long fee;
        int size;
        int outputs;
        int coming;
        long parents;
        long children;

        void describe(long itsFee, int itsSize, int itsOutputs) {
            fee = itsFee;
            size = itsSize;
            outputs = itsOutputs;
        }
    }

    /** The transactions in places 0 .. PLACES - 1; a place that is left is used again. */
    private static final class Pool {
        final Transaction[] places = new Transaction[PLACES];
        long present;
        int came;

        Pool() {
            for (int p = 0; p < PLACES; p++) {
                places[p] = new Transaction();
            }
        }

        int find(Name name) {
            for (int p = 0; p < PLACES; p++) {
                if (has(present, p) && places[p].ownName.same(name)) {
                    return p;
                }
            }
            return NOWHERE;
        }

        int findSpender(Name name, int index) {
            for (int p = 0; p < PLACES; p++) {
                if (has(present, p) && places[p].keys.contains(name, index)) {
                    return p;
                }
            }
            return NOWHERE;
        }

        int freePlace() {
            int place = lowest(~present);
            return place < PLACES ? place : NOWHERE;
        }

        /** The first reason against entering, or CAME if there is none. */
        int hindrance(Name name, Keys keys, int outputs) {
            if (find(name) != NOWHERE) {
                return NAME_IN_POOL;
            }
            if (isSpent(keys)) {
                return KEY_SPENT;
            }
            if (missesOutput(name, keys, outputs)) {
                return NO_SUCH_OUTPUT;
            }
            return hangsOnItself(name, keys) ? HANGS_ON_ITSELF : CAME;
        }

        private boolean isSpent(Keys keys) {
            for (int p = 0; p < PLACES; p++) {
                if (has(present, p) && places[p].keys.containsOneOf(keys)) {
                    return true;
                }
            }
            return false;
        }

        private boolean missesOutput(Name name, Keys keys, int outputs) {
            for (int p = 0; p < PLACES; p++) {
                if (has(present, p)) {
                    Transaction one = places[p];
                    if (keys.misses(one.ownName, one.outputs) || one.keys.misses(name, outputs)) {
                        return true;
                    }
                }
            }
            return false;
        }

        private boolean hangsOnItself(Name name, Keys keys) {
            return keys.bears(name) || (family(spendersOf(name)) & named(keys)) != 0;
        }

        /** The places of those that spend a key of a name. */
        private long spendersOf(Name name) {
            long set = 0;
            for (int p = 0; p < PLACES; p++) {
                if (has(present, p) && places[p].keys.bears(name)) {
                    set |= bit(p);
                }
            }
            return set;
        }

        /** The places of those whose name is in one of the keys. */
        private long named(Keys keys) {
            long set = 0;
            for (int p = 0; p < PLACES; p++) {
                if (has(present, p) && keys.bears(places[p].ownName)) {
                    set |= bit(p);
                }
            }
            return set;
        }

        /** A free place's transaction comes into the pool; children may have come before it. */
        void settle(int place, Name name, Keys keys) {
            Transaction one = places[place];
            one.ownName.set(name.a, name.b, name.c, name.d);
            one.keys.copy(keys);
            one.parents = named(keys);
            one.children = spendersOf(name);
            came++;
            one.coming = came;
            present |= bit(place);
            for (int p = 0; p < PLACES; p++) {
                if (has(one.parents, p)) {
                    places[p].children |= bit(place);
                }
                if (has(one.children, p)) {
                    places[p].parents |= bit(place);
                }
            }
        }

        void remove(long gone) {
            present &= ~gone;
            for (int p = 0; p < PLACES; p++) {
                places[p].parents &= ~gone;
                places[p].children &= ~gone;
            }
        }

        /** Those of a set, their children, theirs, and so on. */
        long family(long roots) {
            long all = roots;
            long open = roots;
            // Each place is opened once, so PLACES steps are enough.
            for (int step = 0; step < PLACES; step++) {
                int place = lowest(open);
                if (place >= PLACES) {
                    break;
                }
                long fresh = places[place].children & ~all;
                all |= fresh;
                open = open & ~bit(place) | fresh;
            }
            return all;
        }

        long sumOfFees(long set) {
            long sum = 0;
            for (int p = 0; p < PLACES; p++) {
                if (has(set, p)) {
                    sum += places[p].fee;
                }
            }
            return sum;
        }

        int sumOfSizes(long set) {
            int sum = 0;
            for (int p = 0; p < PLACES; p++) {
                if (has(set, p)) {
                    sum += places[p].size;
                }
            }
            return sum;
        }

        int sumOfKeys() {
            int sum = 0;
            for (int p = 0; p < PLACES; p++) {
                if (has(present, p)) {
                    sum += places[p].keys.held;
                }
            }
            return sum;
        }

        /** The place of the one whose family has the least rate; of like ones that which came last. */
        int leastPaying() {
            int least = NOWHERE;
            int leastComing = 0;
            long leastFees = 0;
            int leastSize = 0;
            for (int p = 0; p < PLACES; p++) {
                if (!has(present, p)) {
                    continue;
                }
                long kin = family(bit(p));
                long kinFees = sumOfFees(kin);
                int kinSize = sumOfSizes(kin);
                int rate = compareRates(kinFees, kinSize, leastFees, leastSize);
                if (least == NOWHERE || rate < 0 || rate == 0 && places[p].coming > leastComing) {
                    least = p;
                    leastComing = places[p].coming;
                    leastFees = kinFees;
                    leastSize = kinSize;
                }
            }
            return least;
        }

        /** The place of the one that is next for a block; NOWHERE if none may be taken any more. */
        int bestPaying(long done, int room) {
            int best = NOWHERE;
            for (int p = 0; p < PLACES; p++) {
                if (!has(present & ~done, p)) {
                    continue;
                }
                Transaction one = places[p];
                boolean open = (one.parents & ~done) == 0 && one.size <= room;
                if (open && (best == NOWHERE || paysBetter(one, places[best]))) {
                    best = p;
                }
            }
            return best;
        }

        private static boolean paysBetter(Transaction one, Transaction other) {
            int rate = compareRates(one.fee, one.size, other.fee, other.size);
            return rate > 0 || rate == 0 && one.coming < other.coming;
        }
    }

    /** The names that were put in order last; copies, for they outlast the pool's own. */
    private static final class Row {
        final long[] words = new long[PLACES * NAME_WORDS];
        int length;

        void clear() {
            length = 0;
        }

        void add(Name name) {
            if (length >= PLACES) {
                return;
            }
            name.write(words, length * NAME_WORDS);
            length++;
        }

        long word(int k, int w) {
            if (k < 0 || k >= length || w < 0 || w >= NAME_WORDS) {
                return 0;
            }
            return words[k * NAME_WORDS + w];
        }
    }
}
