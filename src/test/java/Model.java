import java.math.BigInteger;
import java.util.ArrayList;
import java.util.Arrays;
import java.util.HashMap;
import java.util.HashSet;
import java.util.List;
import java.util.Map;
import java.util.Set;

/**
 * The document told once more, as plainly as can be and without a look at speed: every row is tried,
 * every state is copied. What the class answers is held against it.
 */
final class Model {
    static final int UNKNOWN = -1, OUTSIDE = -2, STATE = -3, FULL = -4, NONE = -9;

    /** What acts change and slots keep. */
    private record Held(List<Integer> shelf, Map<Integer, Integer> holder, Map<Integer, Integer> asked) {
        Held copy() {
            return new Held(new ArrayList<>(shelf), new HashMap<>(holder), new HashMap<>(asked));
        }
    }

    private final List<Integer> text = new ArrayList<>();
    private int books = 2;
    private int law = 0;
    private List<Integer> catalogue = List.of(0, 1);
    private List<int[]> readers = new ArrayList<>();
    private Held now = new Held(new ArrayList<>(List.of(0, 1)), new HashMap<>(), new HashMap<>());
    private final List<Held> acts = new ArrayList<>();
    private final Held[] slots = new Held[2];
    private final List<int[]> given = new ArrayList<>();
    private long seed = 0;

    // ---- the library

    int write(int n, long v) {
        if (n < 1 || n > 8) {
            return OUTSIDE;
        }
        if (text.size() + n > 40) {
            return FULL;
        }
        for (int i = n - 1; i >= 0; i--) {
            text.add((int) (v >> (8 * i)) & 255);
        }
        return text.size();
    }

    int wipe() {
        int was = text.size();
        text.clear();
        return was;
    }

    int fault() {
        for (int i = 0; i < text.size(); i++) {
            if (mayFollow(text.subList(0, i)).indexOf(text.get(i)) < 0) {
                return i;
            }
        }
        return mayEnd(text) ? NONE : text.size();
    }

    private static final int HEAD = 3;

    /** How many bytes stand behind the last part that is whole; a text that can begin a library is meant. */
    private static int openBytes(List<Integer> begun) {
        int n = begun.get(2) - '0';
        int place = HEAD + n;
        while (place < begun.size()) {
            int wanted = begun.get(place) == 'C' ? 1 + n : 3;
            if (place + wanted > begun.size()) {
                return begun.size() - place;
            }
            place += wanted;
        }
        return 0;
    }

    private static boolean mayEnd(List<Integer> begun) {
        return begun.size() > HEAD && begun.size() >= HEAD + begun.get(2) - '0' && openBytes(begun) == 0;
    }

    /** The bytes by which a text that can begin a library can go on. */
    private static List<Integer> mayFollow(List<Integer> begun) {
        int size = begun.size();
        if (size < HEAD) {
            return size == 0 ? List.of((int) 'L') : figures(size == 1 ? 0 : 2, size == 1 ? 2 : 8);
        }
        int n = begun.get(2) - '0';
        if (size < HEAD + n) {
            return without(figures(0, n - 1), begun.subList(HEAD, size));
        }
        int open = openBytes(begun);
        if (open == 0) {
            List<Integer> signs = new ArrayList<>();
            if (!begun.contains((int) 'C')) {
                signs.add((int) 'C');
            }
            if (begun.stream().filter(b -> b == 'R').count() < 4) {
                signs.add((int) 'R');
            }
            return signs;
        }
        if (begun.get(size - open) == 'C') {
            return without(figures(0, n - 1), begun.subList(size - open + 1, size));
        }
        return open == 1 ? figures(0, n - 1) : figures(0, 9);
    }

    private static List<Integer> figures(int from, int to) {
        List<Integer> bytes = new ArrayList<>();
        for (int i = from; i <= to; i++) {
            bytes.add('0' + i);
        }
        return bytes;
    }

    private static List<Integer> without(List<Integer> all, List<Integer> gone) {
        all.removeAll(gone);
        return all;
    }

    int library() {
        if (fault() != NONE) {
            return STATE;
        }
        law = text.get(1) - '0';
        books = text.get(2) - '0';
        List<Integer> shelf = new ArrayList<>();
        for (int i = 0; i < books; i++) {
            shelf.add(text.get(HEAD + i) - '0');
        }
        catalogue = new ArrayList<>(shelf);
        readers = new ArrayList<>();
        for (int i = HEAD + books; i < text.size(); i++) {
            if (text.get(i) == 'C') {
                for (int j = 0; j < books; j++) {
                    catalogue.set(j, text.get(i + 1 + j) - '0');
                }
            }
            if (text.get(i) == 'R') {
                readers.add(new int[] {text.get(i + 1) - '0', text.get(i + 2) - '0'});
            }
        }
        now = new Held(shelf, new HashMap<>(), new HashMap<>());
        acts.clear();
        Arrays.fill(slots, null);
        return 10 * books + readers.size();
    }

    int at(int place) {
        return place < 0 || place >= now.shelf.size() ? NONE : now.shelf.get(place);
    }

    private boolean noBook(int book) {
        return book < 0 || book >= books;
    }

    private boolean noReader(int reader) {
        return reader < 0 || reader >= readers.size();
    }

    private boolean away(int book) {
        return !now.shelf.contains(book);
    }

    int book(int book, int what) {
        if (noBook(book)) {
            return UNKNOWN;
        }
        if (what < 0 || what > 3) {
            return OUTSIDE;
        }
        if (what == 0) {
            return away(book) ? NONE : now.shelf.indexOf(book);
        }
        if (what == 1) {
            return now.holder.getOrDefault(book, NONE);
        }
        return what == 2 ? now.asked.getOrDefault(book, NONE) : catalogue.indexOf(book);
    }

    int reader(int reader, int what) {
        if (noReader(reader)) {
            return UNKNOWN;
        }
        if (what < 0 || what > 3) {
            return OUTSIDE;
        }
        int bits = 0;
        for (int book = 0; book < books; book++) {
            if (now.holder.getOrDefault(book, NONE) == reader) {
                bits += 1 << book;
            }
        }
        int[] told = readers.get(reader);
        if (what < 2) {
            return told[what];
        }
        return what == 2 ? bits : bits >> told[0] & 1;
    }

    int law(int other) {
        if (other < 0 || other > 2) {
            return OUTSIDE;
        }
        int was = law;
        law = other;
        return was;
    }

    // ---- acts

    /** What is given and so goes from a shelf. */
    private static int go(List<Integer> shelf, int asked) {
        int right = (shelf.indexOf(asked) + 1) % shelf.size();
        return shelf.remove(right);
    }

    private static int putBack(List<Integer> shelf, int book, int asked, int law) {
        int place = shelf.size();
        if (law == 1 && shelf.contains(asked)) {
            place = shelf.indexOf(asked) + 1;
        }
        if (law == 2) {
            place = 0;
        }
        shelf.add(place, book);
        return place;
    }

    private static int trip(List<Integer> shelf, int asked, int law) {
        int got = go(shelf, asked);
        putBack(shelf, got, asked, law);
        return got;
    }

    private void remember() {
        acts.add(now.copy());
        if (acts.size() > 16) {
            acts.remove(0);
        }
    }

    int ask(int reader, int book) {
        if (noReader(reader) || noBook(book)) {
            return UNKNOWN;
        }
        if (away(book)) {
            return STATE;
        }
        remember();
        int got = go(now.shelf, book);
        now.holder.put(got, reader);
        now.asked.put(got, book);
        return got;
    }

    int bring(int book) {
        if (noBook(book)) {
            return UNKNOWN;
        }
        if (!away(book)) {
            return STATE;
        }
        remember();
        now.holder.remove(book);
        return putBack(now.shelf, book, now.asked.remove(book), law);
    }

    int undo() {
        if (acts.isEmpty()) {
            return STATE;
        }
        now = acts.remove(acts.size() - 1);
        return acts.size();
    }

    /** Figures with noughts in front; null: there are more than so many. */
    private static int[] told(int row, int figures) {
        String text = Integer.toString(row);
        if (row < 0 || text.length() > figures) {
            return null;
        }
        return ("0".repeat(figures - text.length()) + text).chars().map(c -> c - '0').toArray();
    }

    int judge(int n, int row) {
        if (n < 1 || n > 4 || told(row, 2 * n) == null) {
            return OUTSIDE;
        }
        int[] figures = told(row, 2 * n);
        List<Integer> shelf = new ArrayList<>(now.shelf);
        for (int i = 0; i < n; i++) {
            if (!shelf.contains(figures[2 * i]) || trip(shelf, figures[2 * i], law) != figures[2 * i + 1]) {
                return i;
            }
        }
        return NONE;
    }

    // ---- goes

    int meant(int book) {
        if (noBook(book)) {
            return UNKNOWN;
        }
        if (away(book)) {
            return STATE;
        }
        for (int asked : now.shelf) {
            if (go(new ArrayList<>(now.shelf), asked) == book) {
                return asked;
            }
        }
        throw new IllegalStateException("nothing gives " + book);
    }

    private int refusalOfGoes(int book, int barred) {
        if (noBook(book)) {
            return UNKNOWN;
        }
        if (barred < 0 || barred >= Math.pow(2, books)) {
            return OUTSIDE;
        }
        return away(book) || now.shelf.size() > 6 ? STATE : 0;
    }

    /** The fewest goes from a shelf on, by whole levels of shelves. */
    private int fewest(List<Integer> from, int book, int barred) {
        Set<List<Integer>> seen = new HashSet<>(Set.of(from));
        List<List<Integer>> level = List.of(from);
        for (int goes = 1; !level.isEmpty(); goes++) {
            List<List<Integer>> further = new ArrayList<>();
            for (List<Integer> shelf : level) {
                for (int asked : shelf) {
                    if ((barred & 1 << asked) != 0) {
                        continue;
                    }
                    List<Integer> after = new ArrayList<>(shelf);
                    if (trip(after, asked, law) == book) {
                        return goes;
                    }
                    if (seen.add(after)) {
                        further.add(after);
                    }
                }
            }
            level = further;
        }
        return NONE;
    }

    int goes(int book, int barred) {
        int refusal = refusalOfGoes(book, barred);
        return refusal != 0 ? refusal : fewest(now.shelf, book, barred);
    }

    int goesAt(int book, int barred, int i) {
        int refusal = refusalOfGoes(book, barred);
        if (refusal != 0) {
            return refusal;
        }
        List<Integer> shelf = new ArrayList<>(now.shelf);
        int left = fewest(shelf, book, barred);
        if (i < 0 || i >= left) {
            return NONE;
        }
        int asked = NONE;
        for (int go = 0; go <= i; go++) {
            asked = firstThatServes(shelf, book, barred, left);
            trip(shelf, asked, law);
            left--;
        }
        return asked;
    }

    private int firstThatServes(List<Integer> shelf, int book, int barred, int left) {
        for (int asked = 0; asked < books; asked++) {
            if ((barred & 1 << asked) != 0 || !shelf.contains(asked)) {
                continue;
            }
            List<Integer> after = new ArrayList<>(shelf);
            int got = trip(after, asked, law);
            if (left == 1 ? got == book : fewest(after, book, barred) == left - 1) {
                return asked;
            }
        }
        throw new IllegalStateException("no way in " + left);
    }

    int around(int book) {
        if (noBook(book)) {
            return UNKNOWN;
        }
        if (away(book)) {
            return STATE;
        }
        List<Integer> shelf = new ArrayList<>(now.shelf);
        for (int trips = 1; trips < 100; trips++) {
            trip(shelf, book, law);
            if (shelf.equals(now.shelf)) {
                return trips;
            }
        }
        return NONE;
    }

    int never(int n, int row) {
        if (n < 1 || n > 4 || told(row, n) == null) {
            return OUTSIDE;
        }
        Set<Integer> left = new HashSet<>(now.shelf);
        List<Integer> shelf = new ArrayList<>(now.shelf);
        for (int round = 0; round < 100; round++) {
            for (int asked : told(row, n)) {
                if (shelf.contains(asked)) {
                    left.remove(trip(shelf, asked, law));
                }
            }
        }
        return left.stream().mapToInt(book -> 1 << book).sum();
    }

    private static void permutations(List<Integer> begun, int n, List<List<Integer>> all) {
        if (begun.size() == n) {
            all.add(new ArrayList<>(begun));
            return;
        }
        for (int i = 0; i < n; i++) {
            if (!begun.contains(i)) {
                begun.add(i);
                permutations(begun, n, all);
                begun.remove(begun.size() - 1);
            }
        }
    }

    private static List<List<Integer>> permutations(int n) {
        List<List<Integer>> all = new ArrayList<>();
        permutations(new ArrayList<>(), n, all);
        return all;
    }

    private int worth(List<Integer> order) {
        List<Integer> shelf = new ArrayList<>(now.shelf);
        int worth = 0;
        for (int reader : order) {
            int wish = readers.get(reader)[0];
            int asked = catalogue.get((catalogue.indexOf(wish) + books - 1) % books);
            if (shelf.contains(asked) && go(shelf, asked) == wish) {
                worth += readers.get(reader)[1];
            }
        }
        return worth;
    }

    private List<Integer> bestOrder() {
        List<Integer> best = null;
        for (List<Integer> order : permutations(readers.size())) {
            if (best == null || worth(order) > worth(best)) {
                best = order;
            }
        }
        return best;
    }

    int order() {
        return worth(bestOrder());
    }

    int orderAt(int i) {
        return noReader(i) ? NONE : bestOrder().get(i);
    }

    // ---- rows, clerks, weeks

    int given(int asked, int got) {
        if (noBook(asked) || noBook(got)) {
            return UNKNOWN;
        }
        if (given.size() == 6) {
            return FULL;
        }
        given.add(new int[] {asked, got});
        return given.size();
    }

    int forget() {
        int was = given.size();
        given.clear();
        return was;
    }

    /** The row behind all that was given; null: it does not fit. */
    private List<Integer> behind(List<Integer> row) {
        List<Integer> shelf = new ArrayList<>(row);
        for (int[] one : given) {
            if (!shelf.contains(one[0]) || trip(shelf, one[0], law) != one[1]) {
                return null;
            }
        }
        return shelf;
    }

    int rows() {
        int fit = 0;
        for (List<Integer> row : permutations(books)) {
            fit += behind(row) == null ? 0 : 1;
        }
        return fit;
    }

    int stood(int book) {
        if (noBook(book)) {
            return UNKNOWN;
        }
        int bits = 0;
        for (List<Integer> row : permutations(books)) {
            if (behind(row) != null) {
                bits |= 1 << row.indexOf(book);
            }
        }
        return bits;
    }

    int next() {
        List<Set<Integer>> might = new ArrayList<>();
        for (int book = 0; book < books; book++) {
            might.add(new HashSet<>());
        }
        for (List<Integer> row : permutations(books)) {
            List<Integer> shelf = behind(row);
            for (int i = 0; shelf != null && i < books; i++) {
                might.get(shelf.get(i)).add(shelf.get((i + 1) % books));
            }
        }
        int best = NONE;
        for (int book = 0; book < books; book++) {
            if (!might.get(book).isEmpty() && (best == NONE || might.get(book).size() > might.get(best).size())) {
                best = book;
            }
        }
        return best;
    }

    long clerk(int asked, int got, int m, int x, boolean upper) {
        if (noBook(asked) || noBook(got)) {
            return UNKNOWN;
        }
        if (m < 1 || m > 6 || x < 0 || x > 10) {
            return OUTSIDE;
        }
        if (away(asked)) {
            return STATE;
        }
        Map<List<Integer>, BigInteger> chances = Map.of(now.shelf, BigInteger.ONE);
        for (int i = 1; i < m; i++) {
            Map<List<Integer>, BigInteger> after = new HashMap<>();
            for (Map.Entry<List<Integer>, BigInteger> one : chances.entrySet()) {
                for (int front = 0; front < 2; front++) {
                    List<Integer> shelf = new ArrayList<>(one.getKey());
                    trip(shelf, asked, front == 1 ? 2 : law);
                    BigInteger tenths = BigInteger.valueOf(front == 1 ? x : 10 - x);
                    after.merge(shelf, one.getValue().multiply(tenths), BigInteger::add);
                }
            }
            chances = after;
        }
        BigInteger above = BigInteger.ZERO;
        for (Map.Entry<List<Integer>, BigInteger> one : chances.entrySet()) {
            if (go(new ArrayList<>(one.getKey()), asked) == got) {
                above = above.add(one.getValue());
            }
        }
        BigInteger below = BigInteger.TEN.pow(m - 1);
        return (upper ? above : below).divide(above.gcd(below)).longValueExact();
    }

    long seed(long v) {
        long was = seed;
        seed = v;
        return was;
    }

    int week(int reader, int m) {
        if (noReader(reader)) {
            return UNKNOWN;
        }
        if (m < 1 || m > 60) {
            return OUTSIDE;
        }
        if (now.shelf.isEmpty()) {
            return STATE;
        }
        List<Integer> shelf = new ArrayList<>(now.shelf);
        int glad = 0;
        for (int i = 0; i < m; i++) {
            BigInteger x = BigInteger.valueOf(seed).multiply(new BigInteger("6364136223846793005"))
                .add(new BigInteger("1442695040888963407")).mod(BigInteger.TWO.pow(64));
            seed = x.longValue();
            int place = x.shiftRight(33).mod(BigInteger.valueOf(shelf.size())).intValue();
            glad += trip(shelf, shelf.get(place), law) == readers.get(reader)[0] ? 1 : 0;
        }
        return glad;
    }

    // ---- slots

    int keep(int slot) {
        if (slot < 0 || slot > 1) {
            return UNKNOWN;
        }
        slots[slot] = now.copy();
        return now.shelf.size();
    }

    int again(int slot) {
        if (slot < 0 || slot > 1) {
            return UNKNOWN;
        }
        if (slots[slot] == null) {
            return STATE;
        }
        now = slots[slot].copy();
        acts.clear();
        return now.shelf.size();
    }

    int count(int what) {
        int wishes = 0;
        for (int reader = 0; reader < readers.size(); reader++) {
            wishes += reader(reader, 3) << reader;
        }
        int[] counts = {text.size(), books, readers.size(), now.shelf.size(), acts.size(), given.size(), law, wishes};
        return what < 0 || what >= counts.length ? OUTSIDE : counts[what];
    }
}
