import java.math.BigInteger;
import java.util.ArrayList;
import java.util.LinkedHashSet;
import java.util.List;
import java.util.Set;

/** The document's words in their plainest form, with no thought of room or speed, to compare PoolDesk with. */
final class PoolModel {
    record Name(long a, long b, long c, long d) {
    }

    record Key(Name name, int index) {
    }

    record Tx(Name name, Set<Key> keys, long fee, int size, int outputs, int coming) {
        boolean hasOutput(int index) {
            return index >= 0 && index < outputs;
        }
    }

    private Name hand = new Name(0, 0, 0, 0);
    private final Set<Key> told = new LinkedHashSet<>();
    private final List<Tx> pool = new ArrayList<>();
    private List<Name> row = new ArrayList<>();
    private int came = 0;

    void name(long a, long b, long c, long d) {
        hand = new Name(a, b, c, d);
    }

    boolean spend(int index) {
        return told.size() < 8 && told.add(new Key(hand, index));
    }

    int enter(long fee, int size, int outputs) {
        if (told.isEmpty() || fee < 0 || fee > 2_100_000_000_000_000L || size < 1 || size > 2000
            || outputs < 0 || outputs > 8) {
            return -1;
        }
        Tx tx = new Tx(hand, new LinkedHashSet<>(told), fee, size, outputs, came + 1);
        told.clear();
        int reason = reason(tx);
        if (reason != 0) {
            return reason;
        }
        came++;
        pool.add(tx);
        if (pool.size() <= 40) {
            return 0;
        }
        Tx least = null;
        for (Tx t : pool) {
            // The pool is in the order of coming, so a like one that is met later came later.
            if (least == null || compareRates(family(t), family(least)) <= 0) {
                least = t;
            }
        }
        pool.removeAll(family(least));
        return pool.contains(tx) ? 0 : 5;
    }

    private int reason(Tx tx) {
        for (Tx t : pool) {
            if (t.name.equals(tx.name)) {
                return 1;
            }
        }
        for (Tx t : pool) {
            for (Key k : tx.keys) {
                if (t.keys.contains(k)) {
                    return 2;
                }
            }
        }
        for (Tx t : pool) {
            if (spendsWhatIsNot(t, tx) || spendsWhatIsNot(tx, t)) {
                return 3;
            }
        }
        List<Tx> family = family(tx);
        for (Key k : tx.keys) {
            for (Tx t : family) {
                if (k.name.equals(t.name)) {
                    return 4;
                }
            }
        }
        return 0;
    }

    private static boolean spendsWhatIsNot(Tx spender, Tx spent) {
        return spender.keys.stream().anyMatch(k -> k.name.equals(spent.name) && !spent.hasOutput(k.index));
    }

    boolean take() {
        return pool.remove(find());
    }

    int drop() {
        return removeFamily(find());
    }

    int strike(int index) {
        for (Tx t : pool) {
            if (t.keys.contains(new Key(hand, index))) {
                return removeFamily(t);
            }
        }
        return 0;
    }

    long look(int what) {
        Tx t = find();
        if (t == null) {
            return -1;
        }
        return switch (what) {
            case 0 -> t.fee;
            case 1 -> t.size;
            case 2 -> t.outputs;
            case 3 -> t.keys.size();
            case 4 -> parents(t).size();
            case 5 -> children(t).size();
            case 6 -> family(t).size();
            case 7 -> fees(family(t));
            case 8 -> sizes(family(t));
            case 9 -> t.coming;
            default -> -1;
        };
    }

    int order(int size) {
        List<Tx> taken = new ArrayList<>();
        row = new ArrayList<>();
        while (true) {
            Tx best = null;
            for (Tx t : pool) {
                boolean may = !taken.contains(t) && taken.containsAll(parents(t))
                    && sizes(taken) + t.size <= size;
                if (may && (best == null || compareRates(List.of(t), List.of(best)) > 0)) {
                    best = t;
                }
            }
            if (best == null) {
                return row.size();
            }
            taken.add(best);
            row.add(best.name);
        }
    }

    long row(int k, int w) {
        if (k < 0 || k >= row.size()) {
            return 0;
        }
        Name n = row.get(k);
        return switch (w) {
            case 0 -> n.a;
            case 1 -> n.b;
            case 2 -> n.c;
            case 3 -> n.d;
            default -> 0;
        };
    }

    int count(int what) {
        return switch (what) {
            case 0 -> pool.size();
            case 1 -> pool.stream().mapToInt(t -> t.keys.size()).sum();
            case 2 -> (int) sizes(pool);
            case 3 -> told.size();
            case 4 -> came;
            default -> -1;
        };
    }

    long fees() {
        return fees(pool);
    }

    private Tx find() {
        return pool.stream().filter(t -> t.name.equals(hand)).findFirst().orElse(null);
    }

    private int removeFamily(Tx t) {
        if (t == null) {
            return 0;
        }
        List<Tx> family = family(t);
        pool.removeAll(family);
        return family.size();
    }

    private List<Tx> parents(Tx t) {
        return pool.stream().filter(p -> isParent(p, t)).toList();
    }

    private List<Tx> children(Tx t) {
        return pool.stream().filter(c -> isParent(t, c)).toList();
    }

    private static boolean isParent(Tx parent, Tx child) {
        return child.keys.stream().anyMatch(k -> k.name.equals(parent.name));
    }

    private List<Tx> family(Tx t) {
        List<Tx> family = new ArrayList<>();
        family.add(t);
        for (int n = 0; n < family.size(); n++) {
            for (Tx c : children(family.get(n))) {
                if (!family.contains(c)) {
                    family.add(c);
                }
            }
        }
        return family;
    }

    private static long fees(List<Tx> some) {
        return some.stream().mapToLong(Tx::fee).sum();
    }

    private static long sizes(List<Tx> some) {
        return some.stream().mapToLong(Tx::size).sum();
    }

    private static int compareRates(List<Tx> some, List<Tx> others) {
        BigInteger left = BigInteger.valueOf(fees(some)).multiply(BigInteger.valueOf(sizes(others)));
        BigInteger right = BigInteger.valueOf(fees(others)).multiply(BigInteger.valueOf(sizes(some)));
        return left.compareTo(right);
    }
}
