import java.util.function.LongSupplier;

/** Counts the answers of one test, and prints those that are not as due. */
final class Check {
    static final int UNKNOWN = -1, OUTSIDE = -2, STATE = -3, FULL = -4, NONE = -9;

    private final String name;
    private int right;
    private int wrong;

    Check(String name) {
        this.name = name;
    }

    void due(String call, long got, long want) {
        if (got == want) {
            right++;
            return;
        }
        wrong++;
        System.out.println(name + ": " + call + " answered " + got + ", due is " + want);
    }

    void holds(String what, boolean holds) {
        due(what, holds ? 1 : 0, 1);
    }

    /** That a call is refused by a number and that nothing that can be read changes by it. */
    void refused(BesideBook x, String call, LongSupplier answer, long want) {
        String before = seen(x);
        due(call, answer.getAsLong(), want);
        String after = seen(x);
        if (before.equals(after)) {
            right++;
        } else {
            wrong++;
            System.out.println(name + ": " + call + " is refused but changes " + before + " to " + after);
        }
    }

    void end() {
        System.out.println(name + ": " + right + " as due, " + wrong + " not");
        if (wrong != 0 || right == 0) {
            System.exit(1);
        }
    }

    static void write(BesideBook x, String text) {
        for (int i = 0; i < text.length(); i++) {
            x.write(1, text.charAt(i));
        }
    }

    static int fault(String text) {
        BesideBook x = new BesideBook();
        write(x, text);
        return x.fault();
    }

    /** A new object whose library a text tells. */
    static BesideBook open(String text) {
        BesideBook x = new BesideBook();
        write(x, text);
        if (x.library() < 0) {
            throw new IllegalStateException(text + " is no library");
        }
        return x;
    }

    /** The shelf as figures from the left. */
    static String shelf(BesideBook x) {
        StringBuilder told = new StringBuilder();
        for (int place = 0; x.at(place) != NONE; place++) {
            told.append(x.at(place));
        }
        return told.toString();
    }

    static void shelfIs(Check check, BesideBook x, String want) {
        String got = shelf(x);
        if (!got.equals(want)) {
            System.out.println("the shelf is " + got);
        }
        check.holds("the shelf is " + want, got.equals(want));
    }

    /** All that calls can tell without changing anything: of the seed, it is set and set back. */
    static String seen(BesideBook x) {
        StringBuilder told = new StringBuilder(shelf(x));
        for (int what = 0; what < 8; what++) {
            told.append(' ').append(x.count(what));
        }
        for (int book = 0; book < x.count(1); book++) {
            told.append(" b");
            for (int what = 1; what < 4; what++) {
                told.append(' ').append(x.book(book, what));
            }
        }
        for (int reader = 0; reader < x.count(2); reader++) {
            told.append(" r");
            for (int what = 0; what < 3; what++) {
                told.append(' ').append(x.reader(reader, what));
            }
        }
        long seed = x.seed(0);
        x.seed(seed);
        return told.append(" f ").append(x.fault()).append(" g ").append(x.rows()).append(" s ").append(seed).toString();
    }
}
