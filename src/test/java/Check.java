import java.util.stream.IntStream;

/** Counts the answers of one test, and prints those that are not as due. */
final class Check {
    static final int UNKNOWN = -1, OUTSIDE = -2, STATE = -3, FULL = -4, NONE = -9;

    private final String name;
    private String sentence = "";
    private int right;
    private int wrong;

    Check(String name) {
        this.name = name;
    }

    /** The test of one sentence of the document; one in which nothing is looked at does not pass. */
    void sentence(String words, Runnable test) {
        sentence = " [" + words + "]";
        int before = right + wrong;
        try {
            test.run();
            holds("something is looked at", right + wrong > before);
        } catch (RuntimeException thrown) {
            isWrong("threw " + thrown);
        }
        sentence = "";
    }

    void due(String call, long got, long want) {
        if (got == want) {
            right++;
        } else {
            isWrong(call + " answered " + got + ", due is " + want);
        }
    }

    void alike(String what, String got, String want) {
        if (got.equals(want)) {
            right++;
        } else {
            isWrong(what + ": it is " + got + ", due is " + want);
        }
    }

    void holds(String what, boolean holds) {
        due(what, holds ? 1 : 0, 1);
    }

    private void isWrong(String what) {
        wrong++;
        System.out.println(name + sentence + ": " + what);
    }

    void end() {
        System.out.println(name + ": " + right + " as due, " + wrong + " not");
        if (wrong != 0 || right == 0) {
            System.exit(1);
        }
    }

    /** Numbers below the least and above the most: the next ones, far ones, and ones alike in their lowest bits. */
    static int[] outside(int least, int most) {
        return IntStream.of(least - 1, most + 1, NONE, least + 32, most + 32, least + 64, least + 256, most + 256,
            Integer.MIN_VALUE, Integer.MIN_VALUE + least, Integer.MAX_VALUE).filter(i -> i < least || i > most).toArray();
    }

    static void write(BesideBook x, String text) {
        for (int from = 0; from < text.length(); from += 8) {
            int n = Math.min(8, text.length() - from);
            x.write(n, bytes(text.substring(from, from + n)));
        }
    }

    /** Up to eight signs as the bytes of a number, the first one highest. */
    static long bytes(String signs) {
        long v = 0;
        for (int i = 0; i < signs.length(); i++) {
            v = v << 8 | signs.charAt(i);
        }
        return v;
    }

    static void told(BesideBook x, String text) {
        x.wipe();
        write(x, text);
    }

    static int fault(String text) {
        BesideBook x = new BesideBook();
        write(x, text);
        return x.fault();
    }

    /** A new object whose library a text tells. */
    static BesideBook open(String text) {
        BesideBook x = new BesideBook();
        write(x, text);
        if (x.library() < 0) {
            throw new IllegalStateException(text + " is no library");
        }
        return x;
    }

    /** The shelf as figures from the left. */
    static String shelf(BesideBook x) {
        StringBuilder told = new StringBuilder();
        int book = x.at(0);
        for (int place = 1; place < 10 && book != NONE; place++) {
            told.append(book);
            book = x.at(place);
        }
        return told.toString();
    }

    static void shelfIs(Check check, BesideBook x, String want) {
        check.alike("the shelf", shelf(x), want);
    }

    /** All that calls can tell without changing anything: of the seed, it is set and set back. */
    static String seen(BesideBook x) {
        StringBuilder told = new StringBuilder(shelf(x));
        int[] counts = new int[8];
        for (int what = 0; what < 8; what++) {
            counts[what] = x.count(what);
            told.append(' ').append(counts[what]);
        }
        for (int book = 0; book < counts[1]; book++) {
            told.append(" b");
            for (int what = 1; what < 4; what++) {
                told.append(' ').append(x.book(book, what));
            }
        }
        for (int reader = 0; reader < counts[2]; reader++) {
            told.append(" r");
            for (int what = 0; what < 3; what++) {
                told.append(' ').append(x.reader(reader, what));
            }
        }
        long seed = x.seed(0);
        x.seed(seed);
        return told.append(" f ").append(x.fault()).append(" g ").append(x.rows()).append(" s ").append(seed).toString();
    }
}
