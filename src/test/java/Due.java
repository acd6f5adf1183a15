import java.io.IOException;
import java.io.UncheckedIOException;
import java.nio.file.Files;
import java.nio.file.Path;

/** What the tests share: they compare answers, count the wrong ones, and enter transactions in one line. */
final class Due {
    static final long MOST_FEE = 2_100_000_000_000_000L;

    private static final String DOCUMENT = document();
    private static String sentence = "";
    private static int wrong = 0;

    private Due() {
    }

    /** Runs the tests of a sentence; its words have to stand in the document, lest a test outlive what it tests. */
    static void says(String words, Runnable... tests) {
        sentence = "\"" + words + "\": ";
        if (!DOCUMENT.isEmpty()) {
            is("stands in the document", DOCUMENT.contains(words), true);
        }
        for (Runnable test : tests) {
            test.run();
        }
        sentence = "";
    }

    private static String document() {
        Path path = Path.of("../shared/DOC.md");
        if (!Files.isReadable(path)) {
            System.out.println(path + " can't be read: the tests' quotes are not compared with it");
            return "";
        }
        try {
            return Files.readString(path).replaceAll("\\s+", " ");
        } catch (IOException e) {
            throw new UncheckedIOException(e);
        }
    }

    static void is(String call, long got, long want) {
        if (got != want) {
            wrong++;
            System.out.println(sentence + call + " answered " + got + ", due is " + want);
        }
    }

    static void is(String call, boolean got, boolean want) {
        is(call, got ? 1 : 0, want ? 1 : 0);
    }

    static void end() {
        System.out.println(wrong == 0 ? "all answers are as due" : wrong + " answers are not as due");
        if (wrong != 0) {
            System.exit(1);
        }
    }

    /** The name in hand is n, 0, 0, 0. */
    static PoolDesk named(PoolDesk x, long n) {
        x.name(n, 0, 0, 0);
        return x;
    }

    /** Tells keys: pairs of a name's first number and an index. */
    static void tell(PoolDesk x, long... keys) {
        for (int k = 0; k + 1 < keys.length; k += 2) {
            is("spend " + keys[k] + ":" + keys[k + 1], named(x, keys[k]).spend((int) keys[k + 1]), true);
        }
    }

    /** Enters the transaction named own with these keys; own stays in hand. */
    static int enter(PoolDesk x, long own, long fee, int size, int outputs, long... keys) {
        tell(x, keys);
        return named(x, own).enter(fee, size, outputs);
    }

    static void comes(PoolDesk x, long own, long fee, int size, int outputs, long... keys) {
        is("enter " + own, enter(x, own, fee, size, outputs, keys), 0);
    }

    /** Looks at the transaction named own, which is in hand then: the answers for what = 0, 1, .. */
    static void looks(PoolDesk x, long own, long... want) {
        named(x, own);
        for (int what = 0; what < want.length; what++) {
            is("look " + what + " of " + own, x.look(what), want[what]);
        }
    }

    /** Counts: the answers for what = 0, 1, .. */
    static void counts(PoolDesk x, long... want) {
        for (int what = 0; what < want.length; what++) {
            is("count " + what, x.count(what), want[what]);
        }
    }

    static boolean inPool(PoolDesk x, long own) {
        return named(x, own).look(0) >= 0;
    }

    static void areIn(PoolDesk x, long... own) {
        for (long n : own) {
            is(n + " is in the pool", inPool(x, n), true);
        }
    }

    static void areGone(PoolDesk x, long... own) {
        for (long n : own) {
            is(n + " is in the pool", inPool(x, n), false);
        }
    }

    /** Fills the pool with single ones, named from .. from + number - 1, that spend keys of nobody's. */
    static void fill(PoolDesk x, long from, int number, long fee, int size) {
        for (long own = from; own < from + number; own++) {
            comes(x, own, fee, size, 8, 1_000_000 + own, 0);
        }
    }

    /** A chain: each one of from .. to spends output 0 of the one before it, the first that of root. */
    static void chain(PoolDesk x, long root, long from, long to, long fee, int size) {
        for (long own = from; own <= to; own++) {
            comes(x, own, fee, size, 1, own == from ? root : own - 1, 0);
        }
    }

    /** 1 has the children 2 and 3, both have the child 4; 5 is a stranger. */
    static PoolDesk diamond() {
        PoolDesk x = new PoolDesk();
        comes(x, 1, 1, 10, 2, 9, 0);
        comes(x, 2, 2, 20, 1, 1, 0);
        comes(x, 3, 4, 30, 1, 1, 1);
        comes(x, 4, 8, 40, 1, 2, 0, 3, 0);
        comes(x, 5, 16, 50, 1, 9, 1);
        return x;
    }
}
