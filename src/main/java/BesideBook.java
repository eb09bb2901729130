import java.util.Arrays;

/** A shelf on which one is given the right neighbour of the book that one asks for. */
public final class BesideBook {
    public static final int UNKNOWN = -1, OUTSIDE = -2, STATE = -3, FULL = -4, NONE = -9;

    private static final int LAW_BESIDE = 1;
    private static final int LAW_FRONT = 2;
    private static final int LAWS = 3;
    private static final int LEAST_BOOKS = 2;
    private static final int MOST_BOOKS = 8;
    private static final int MOST_READERS = 4;
    private static final int MOST_BYTES = 40;
    private static final int MOST_ACTS = 16;
    private static final int MOST_GIVEN = 6;
    private static final int MOST_SLOTS = 2;
    private static final int MOST_TOLD = 4;
    private static final int MOST_SEARCHED = 6;
    private static final int SEARCHED_ROWS = 720;
    private static final int MOST_AROUND = 99;
    private static final int ROUNDS = 100;
    private static final int MOST_CLERK = 6;
    private static final int TENTHS = 10;
    private static final int MOST_WEEK = 60;
    private static final long SEED_TIMES = 6364136223846793005L;
    private static final long SEED_MORE = 1442695040888963407L;

    private static final int[] TENS = {1, 10, 100, 1000, 10000, 100000, 1000000, 10000000, 100000000};
    private static final int[] FACTORIALS = {1, 1, 2, 6, 24, 120, 720, 5040, 40320};

    private final byte[] text = new byte[MOST_BYTES];
    private int length;
    private Plan plan = new Plan();
    private Plan spare = new Plan();
    private int law;
    private final Desk desk = new Desk();
    private final Acts acts = new Acts();
    private final Desk[] kept = new Desk[MOST_SLOTS];
    private int keptBits;
    private final Guess guess = new Guess();
    private final Line line = new Line();
    private final Row trial = new Row();
    // Made when it is first needed: its rows are by far the longest, and many objects never search.
    private Search search;
    private long seed;

    public BesideBook() {
        for (int slot = 0; slot < MOST_SLOTS; slot++) {
            kept[slot] = new Desk();
        }
        law = plan.law;
        desk.openWith(plan);
    }

    // ---- the library

    public int write(int n, long v) {
        if (n < 1 || n > 8) {
            return OUTSIDE;
        }
        if (length + n > MOST_BYTES) {
            return FULL;
        }
        for (int i = 0; i < n; i++) {
            text[length + i] = (byte) (v >>> (8 * (n - 1 - i)));
        }
        length += n;
        return length;
    }

    public int wipe() {
        int was = length;
        length = 0;
        return was;
    }

    public int fault() {
        return spare.read(text, length);
    }

    public int library() {
        if (spare.read(text, length) != NONE) {
            return STATE;
        }
        Plan old = plan;
        plan = spare;
        spare = old;
        law = plan.law;
        desk.openWith(plan);
        acts.size = 0;
        keptBits = 0;
        return 10 * plan.books + plan.readers;
    }

    public int at(int place) {
        return desk.shelf.bookAt(place);
    }

    public int book(int book, int what) {
        if (!isBook(book)) {
            return UNKNOWN;
        }
        switch (what) {
            case 0:
                return desk.shelf.placeOf(book);
            case 1:
                return desk.holder[book];
            case 2:
                return desk.askedFor[book];
            case 3:
                return plan.catalogue.placeOf(book);
            default:
                return OUTSIDE;
        }
    }

    public int reader(int reader, int what) {
        if (!isReader(reader)) {
            return UNKNOWN;
        }
        switch (what) {
            case 0:
                return plan.wish[reader];
            case 1:
                return plan.worth[reader];
            case 2:
                return desk.heldBy(reader);
            case 3:
                return hasWish(reader) ? 1 : 0;
            default:
                return OUTSIDE;
        }
    }

    public int law(int law) {
        if (law < 0 || law >= LAWS) {
            return OUTSIDE;
        }
        int was = this.law;
        this.law = law;
        return was;
    }

    // ---- acts

    public int ask(int reader, int book) {
        if (!isReader(reader) || !isBook(book)) {
            return UNKNOWN;
        }
        int place = desk.shelf.placeGivenFor(book);
        int given = desk.shelf.takeAt(place);
        if (given == NONE) {
            return STATE;
        }
        acts.add(given, place, NONE, NONE);
        desk.holder[given] = reader;
        desk.askedFor[given] = book;
        return given;
    }

    public int bring(int book) {
        if (!isBook(book)) {
            return UNKNOWN;
        }
        if (stands(book)) {
            return STATE;
        }
        int place = desk.shelf.putBack(book, desk.askedFor[book], law);
        acts.add(book, place, desk.holder[book], desk.askedFor[book]);
        desk.holder[book] = NONE;
        desk.askedFor[book] = NONE;
        return place;
    }

    public int undo() {
        if (acts.size == 0) {
            return STATE;
        }
        acts.undoLast(desk);
        return acts.size;
    }

    public int judge(int n, int row) {
        if (!isTold(n, row, 2)) {
            return OUTSIDE;
        }
        trial.copyFrom(desk.shelf);
        for (int trip = 0; trip < n; trip++) {
            int asked = figure(row, 2 * n, 2 * trip);
            int given = figure(row, 2 * n, 2 * trip + 1);
            if (trial.roundTrip(asked, law) != given) {
                return trip;
            }
        }
        return NONE;
    }

    // ---- goes

    public int meant(int book) {
        if (!isBook(book)) {
            return UNKNOWN;
        }
        int place = desk.shelf.placeOf(book);
        if (place == NONE) {
            return STATE;
        }
        return desk.shelf.bookAt(desk.shelf.leftOf(place));
    }

    public int goes(int book, int barred) {
        int refusal = refusalOfGoes(book, barred);
        if (refusal != 0) {
            return refusal;
        }
        return searchFor(book, barred) ? search.goesFound() : NONE;
    }

    public int goesAt(int book, int barred, int i) {
        int refusal = refusalOfGoes(book, barred);
        if (refusal != 0) {
            return refusal;
        }
        return searchFor(book, barred) ? search.askedInGo(i) : NONE;
    }

    public int around(int book) {
        if (!isBook(book)) {
            return UNKNOWN;
        }
        if (!stands(book)) {
            return STATE;
        }
        trial.copyFrom(desk.shelf);
        for (int trips = 1; trips <= MOST_AROUND; trips++) {
            trial.roundTrip(book, law);
            if (trial.isLike(desk.shelf)) {
                return trips;
            }
        }
        return NONE;
    }

    public int never(int n, int row) {
        if (!isTold(n, row, 1)) {
            return OUTSIDE;
        }
        trial.copyFrom(desk.shelf);
        int left = trial.bits();
        for (int trip = 0; trip < ROUNDS * n; trip++) {
            int given = trial.roundTrip(figure(row, n, trip % n), law);
            if (given != NONE) {
                left &= ~(1 << given);
            }
        }
        return left;
    }

    public int order() {
        line.find(desk.shelf, plan);
        return line.most;
    }

    public int orderAt(int i) {
        if (!isReader(i)) {
            return NONE;
        }
        line.find(desk.shelf, plan);
        return line.best[i];
    }

    // ---- rows, clerks, weeks

    public int given(int asked, int given) {
        if (!isBook(asked) || !isBook(given)) {
            return UNKNOWN;
        }
        if (guess.size >= MOST_GIVEN) {
            return FULL;
        }
        guess.add(asked, given);
        return guess.size;
    }

    public int forget() {
        int was = guess.size;
        guess.size = 0;
        return was;
    }

    public int rows() {
        guess.find(plan.books, law);
        return guess.total;
    }

    public int stood(int book) {
        if (!isBook(book)) {
            return UNKNOWN;
        }
        guess.find(plan.books, law);
        return guess.stoodBits[book];
    }

    public int next() {
        guess.find(plan.books, law);
        return guess.bestToAsk();
    }

    public long clerk(int asked, int given, int m, int x, boolean upper) {
        if (!isBook(asked) || !isBook(given)) {
            return UNKNOWN;
        }
        if (m < 1 || m > MOST_CLERK || x < 0 || x > TENTHS) {
            return OUTSIDE;
        }
        if (!stands(asked)) {
            return STATE;
        }
        // What the clerk does with the m-th book comes too late to count.
        int puts = m - 1;
        long above = 0;
        for (int errs = 0; errs < 1 << puts; errs++) {
            long weight = weightOf(errs, puts, x);
            if (weight > 0 && givenBehind(asked, errs, puts) == given) {
                above += weight;
            }
        }
        long below = TENS[puts];
        long shared = greatestShared(above, below);
        return (upper ? above : below) / shared;
    }

    public long seed(long v) {
        long was = seed;
        seed = v;
        return was;
    }

    public int week(int reader, int m) {
        if (!isReader(reader)) {
            return UNKNOWN;
        }
        if (m < 1 || m > MOST_WEEK) {
            return OUTSIDE;
        }
        int standing = desk.shelf.size;
        if (standing < 1) {
            return STATE;
        }
        int glad = 0;
        trial.copyFrom(desk.shelf);
        for (int trip = 0; trip < m; trip++) {
            seed = seed * SEED_TIMES + SEED_MORE;
            int place = (int) (seed >>> 33) % standing;
            if (trial.roundTrip(trial.bookAt(place), law) == plan.wish[reader]) {
                glad++;
            }
        }
        return glad;
    }

    // ---- slots

    public int keep(int slot) {
        if (!isSlot(slot)) {
            return UNKNOWN;
        }
        kept[slot].copyFrom(desk);
        keptBits |= 1 << slot;
        return desk.shelf.size;
    }

    public int again(int slot) {
        if (!isSlot(slot)) {
            return UNKNOWN;
        }
        if ((keptBits >> slot & 1) == 0) {
            return STATE;
        }
        desk.copyFrom(kept[slot]);
        acts.size = 0;
        return desk.shelf.size;
    }

    public int count(int what) {
        switch (what) {
            case 0:
                return length;
            case 1:
                return plan.books;
            case 2:
                return plan.readers;
            case 3:
                return desk.shelf.size;
            case 4:
                return acts.size;
            case 5:
                return guess.size;
            case 6:
                return law;
            case 7:
                return readersWithWish();
            default:
                return OUTSIDE;
        }
    }

    // ---- what the calls share

    private boolean isBook(int book) {
        return book >= 0 && book < plan.books;
    }

    private boolean isReader(int reader) {
        return reader >= 0 && reader < plan.readers;
    }

    private static boolean isSlot(int slot) {
        return slot >= 0 && slot < MOST_SLOTS;
    }

    private boolean stands(int book) {
        return desk.shelf.placeOf(book) != NONE;
    }

    private boolean hasWish(int reader) {
        return desk.holder[plan.wish[reader]] == reader;
    }

    private int readersWithWish() {
        int bits = 0;
        for (int reader = 0; reader < plan.readers; reader++) {
            if (hasWish(reader)) {
                bits |= 1 << reader;
            }
        }
        return bits;
    }

    private static boolean isTold(int n, int row, int figuresEach) {
        return n >= 1 && n <= MOST_TOLD && row >= 0 && row < TENS[figuresEach * n];
    }

    /** The i-th from the left of so many figures. */
    private static int figure(int row, int figures, int i) {
        return row / TENS[figures - 1 - i] % 10;
    }

    private int refusalOfGoes(int book, int barred) {
        if (!isBook(book)) {
            return UNKNOWN;
        }
        if (barred < 0 || barred >= 1 << plan.books) {
            return OUTSIDE;
        }
        return stands(book) && desk.shelf.size <= MOST_SEARCHED ? 0 : STATE;
    }

    private boolean searchFor(int book, int barred) {
        if (search == null) {
            search = new Search();
        }
        return search.find(desk.shelf, book, barred, law);
    }

    private static long weightOf(int errs, int puts, int x) {
        long weight = 1;
        for (int put = 0; put < puts; put++) {
            weight *= (errs >> put & 1) != 0 ? x : TENTHS - x;
        }
        return weight;
    }

    private int givenBehind(int asked, int errs, int puts) {
        trial.copyFrom(desk.shelf);
        for (int put = 0; put < puts; put++) {
            trial.roundTrip(asked, (errs >> put & 1) != 0 ? LAW_FRONT : law);
        }
        return trial.roundTrip(asked, law);
    }

    /** Of numbers that are 0 or more; 1 or more itself, so that it may divide. */
    private static long greatestShared(long one, long other) {
        long large = other;
        long small = one;
        for (int i = 0; i < 100 && small != 0; i++) {
            long rest = large % small;
            large = small;
            small = rest;
        }
        return large > 0 ? large : 1;
    }

    /** Books that stand one beside the other, from the left. */
    private static final class Row {
        final int[] books = new int[MOST_BOOKS];
        int size;

        void copyFrom(Row other) {
            size = other.size;
            System.arraycopy(other.books, 0, books, 0, size);
        }

        /** 0, 1, 2, .. */
        void fillInTurn(int wanted) {
            size = wanted;
            for (int i = 0; i < size; i++) {
                books[i] = i;
            }
        }

        boolean isLike(Row other) {
            if (size != other.size) {
                return false;
            }
            for (int i = 0; i < size; i++) {
                if (books[i] != other.books[i]) {
                    return false;
                }
            }
            return true;
        }

        int bits() {
            int bits = 0;
            for (int i = 0; i < size; i++) {
                bits |= 1 << books[i];
            }
            return bits;
        }

        int bookAt(int place) {
            return place >= 0 && place < size ? books[place] : NONE;
        }

        int placeOf(int book) {
            for (int i = 0; i < size; i++) {
                if (books[i] == book) {
                    return i;
                }
            }
            return NONE;
        }

        int rightOf(int place) {
            return place + 1 < size ? place + 1 : 0;
        }

        int leftOf(int place) {
            return place > 0 ? place - 1 : size - 1;
        }

        int placeGivenFor(int asked) {
            int place = placeOf(asked);
            return place == NONE ? NONE : rightOf(place);
        }

        /** What stood there; NONE, and nothing changes, if there is no such place. */
        int takeAt(int place) {
            if (place < 0 || place >= size) {
                return NONE;
            }
            int book = books[place];
            size--;
            System.arraycopy(books, place + 1, books, place, size - place);
            return book;
        }

        void putAt(int place, int book) {
            if (place < 0 || place > size || size >= MOST_BOOKS) {
                return;
            }
            System.arraycopy(books, place, books, place + 1, size - place);
            books[place] = book;
            size++;
        }

        /** By a law, beside what was asked for when it was given: its place then. */
        int putBack(int book, int asked, int law) {
            int place = size;
            if (law == LAW_FRONT) {
                place = 0;
            } else if (law == LAW_BESIDE) {
                int beside = placeOf(asked);
                place = beside == NONE ? size : beside + 1;
            }
            putAt(place, book);
            return place;
        }

        /** What is given; NONE, and nothing changes, if what is asked for doesn't stand here. */
        int roundTrip(int asked, int law) {
            int given = takeAt(placeGivenFor(asked));
            if (given != NONE) {
                putBack(given, asked, law);
            }
            return given;
        }
    }

    /** A library as a text tells it. */
    private static final class Plan {
        int law;
        int books = LEAST_BOOKS;
        int readers;
        final Row shelf = new Row();
        final Row catalogue = new Row();
        final int[] wish = new int[MOST_READERS];
        final int[] worth = new int[MOST_READERS];

        Plan() {
            shelf.fillInTurn(LEAST_BOOKS);
            catalogue.fillInTurn(LEAST_BOOKS);
        }

        /**
         * The fault, or NONE. A byte that is wrong and one that is still wanted are told alike, by the
         * place where they are looked for: for the second that place is the text's length.
         */
        int read(byte[] text, int length) {
            if (signAt(text, length, 0) != 'L') {
                return 0;
            }
            law = figureAt(text, length, 1, LAWS);
            if (law == NONE) {
                return 1;
            }
            books = figureAt(text, length, 2, MOST_BOOKS + 1);
            if (books < LEAST_BOOKS) {
                return 2;
            }
            int fault = readRow(shelf, text, length, 3);
            return fault != NONE ? fault : readParts(text, length, 3 + books);
        }

        private int readParts(byte[] text, int length, int from) {
            boolean listed = false;
            catalogue.copyFrom(shelf);
            readers = 0;
            int place = from;
            for (int part = 0; part < MOST_BYTES && place < length; part++) {
                int sign = signAt(text, length, place);
                int fault;
                if (sign == 'C' && !listed) {
                    fault = readRow(catalogue, text, length, place + 1);
                    listed = true;
                    place += 1 + books;
                } else if (sign == 'R' && readers < MOST_READERS) {
                    fault = readReader(text, length, place + 1);
                    place += 3;
                } else {
                    fault = place;
                }
                if (fault != NONE) {
                    return fault;
                }
            }
            return NONE;
        }

        private int readRow(Row row, byte[] text, int length, int from) {
            row.size = 0;
            for (int i = 0; i < books; i++) {
                int book = figureAt(text, length, from + i, books);
                if (book == NONE || row.placeOf(book) != NONE) {
                    return from + i;
                }
                row.putAt(i, book);
            }
            return NONE;
        }

        private int readReader(byte[] text, int length, int from) {
            int wished = figureAt(text, length, from, books);
            if (wished == NONE) {
                return from;
            }
            int valued = figureAt(text, length, from + 1, 10);
            if (valued == NONE) {
                return from + 1;
            }
            wish[readers] = wished;
            worth[readers] = valued;
            readers++;
            return NONE;
        }

        private static int signAt(byte[] text, int length, int place) {
            return place < length && place < text.length ? text[place] : NONE;
        }

        private static int figureAt(byte[] text, int length, int place, int below) {
            int figure = signAt(text, length, place) - '0';
            return figure >= 0 && figure < below ? figure : NONE;
        }
    }

    /** The shelf, who has what, and what was asked for when it was given. */
    private static final class Desk {
        final Row shelf = new Row();
        final int[] holder = new int[MOST_BOOKS];
        final int[] askedFor = new int[MOST_BOOKS];

        void openWith(Plan plan) {
            shelf.copyFrom(plan.shelf);
            Arrays.fill(holder, NONE);
            Arrays.fill(askedFor, NONE);
        }

        void copyFrom(Desk other) {
            shelf.copyFrom(other.shelf);
            System.arraycopy(other.holder, 0, holder, 0, MOST_BOOKS);
            System.arraycopy(other.askedFor, 0, askedFor, 0, MOST_BOOKS);
        }

        int heldBy(int reader) {
            int bits = 0;
            for (int book = 0; book < MOST_BOOKS; book++) {
                if (holder[book] == reader) {
                    bits |= 1 << book;
                }
            }
            return bits;
        }
    }

    /** The last acts, each by what it takes to undo it. */
    private static final class Acts {
        final int[] book = new int[MOST_ACTS];
        final int[] place = new int[MOST_ACTS];
        final int[] holder = new int[MOST_ACTS];
        final int[] askedFor = new int[MOST_ACTS];
        int size;

        /** Where the book stood or came to stand; who had it before, NONE if it was asked for. */
        void add(int itsBook, int itsPlace, int itsHolder, int itsAskedFor) {
            if (size >= MOST_ACTS) {
                dropFirst();
            }
            book[size] = itsBook;
            place[size] = itsPlace;
            holder[size] = itsHolder;
            askedFor[size] = itsAskedFor;
            size++;
        }

        void undoLast(Desk desk) {
            if (size < 1) {
                return;
            }
            size--;
            int undone = book[size];
            if (holder[size] == NONE) {
                desk.shelf.putAt(place[size], undone);
            } else {
                desk.shelf.takeAt(place[size]);
            }
            desk.holder[undone] = holder[size];
            desk.askedFor[undone] = askedFor[size];
        }

        private void dropFirst() {
            size = MOST_ACTS - 1;
            System.arraycopy(book, 1, book, 0, size);
            System.arraycopy(place, 1, place, 0, size);
            System.arraycopy(holder, 1, holder, 0, size);
            System.arraycopy(askedFor, 1, askedFor, 0, size);
        }
    }

    /** The fewest goes, by looking at all rows one go away, then two, .. */
    private static final class Search {
        // Rows in the order in which they are found: since what is asked for is tried from the least
        // book on, of rows equally far the one with the first way to it comes first.
        final int[] found = new int[SEARCHED_ROWS];
        final int[] from = new int[SEARCHED_ROWS];
        final int[] seen = new int[SEARCHED_ROWS / 32 + 1];
        final Row row = new Row();
        int size;
        int last;
        int lastAsked;

        boolean find(Row shelf, int book, int barred, int law) {
            Arrays.fill(seen, 0);
            size = 0;
            if (shelf.size > MOST_SEARCHED) {
                return false;
            }
            row.copyFrom(shelf);
            addRow(0);
            for (int i = 0; i < size && i < SEARCHED_ROWS; i++) {
                if (goOn(i, shelf.size, book, barred, law)) {
                    return true;
                }
            }
            return false;
        }

        private boolean goOn(int i, int standing, int book, int barred, int law) {
            for (int asked = 0; asked < MOST_BOOKS; asked++) {
                if ((barred >> asked & 1) != 0) {
                    continue;
                }
                unpack(found[i], standing);
                int given = row.roundTrip(asked, law);
                if (given == book) {
                    last = i;
                    lastAsked = asked;
                    return true;
                }
                if (given != NONE) {
                    addRow(i * MOST_BOOKS + asked);
                }
            }
            return false;
        }

        private void addRow(int cameFrom) {
            int rank = rank();
            int word = rank / 32;
            int bit = 1 << (rank % 32);
            if (size >= SEARCHED_ROWS || word >= seen.length || (seen[word] & bit) != 0) {
                return;
            }
            seen[word] |= bit;
            found[size] = packed();
            from[size] = cameFrom;
            size++;
        }

        int goesFound() {
            int goes = 1;
            int at = last;
            for (int i = 0; i < SEARCHED_ROWS && at > 0; i++) {
                at = from[at] / MOST_BOOKS;
                goes++;
            }
            return goes;
        }

        int askedInGo(int wanted) {
            int go = goesFound() - 1;
            if (wanted < 0 || wanted > go) {
                return NONE;
            }
            int asked = lastAsked;
            int at = last;
            for (int i = go; i > wanted; i--) {
                asked = from[at] % MOST_BOOKS;
                at = from[at] / MOST_BOOKS;
            }
            return asked;
        }

        private int packed() {
            int bits = 0;
            for (int i = row.size - 1; i >= 0; i--) {
                bits = bits * MOST_BOOKS + row.books[i];
            }
            return bits;
        }

        private void unpack(int bits, int standing) {
            int rest = bits;
            row.size = standing;
            for (int i = 0; i < standing; i++) {
                row.books[i] = rest % MOST_BOOKS;
                rest /= MOST_BOOKS;
            }
        }

        /** A number of its own for each order of the books that stand here, from 0 on without gaps. */
        private int rank() {
            int rank = 0;
            for (int i = 0; i < row.size; i++) {
                int less = 0;
                for (int j = i + 1; j < row.size; j++) {
                    if (row.books[j] < row.books[i]) {
                        less++;
                    }
                }
                rank = rank * (row.size - i) + less;
            }
            return rank;
        }
    }

    /** Readers one behind the other, who go by the catalogue. */
    private static final class Line {
        final Row[] shelves = new Row[MOST_READERS + 1];
        final int[] chosen = new int[MOST_READERS];
        final int[] best = new int[MOST_READERS];
        int most;

        Line() {
            for (int i = 0; i <= MOST_READERS; i++) {
                shelves[i] = new Row();
            }
        }

        void find(Row shelf, Plan plan) {
            most = NONE;
            shelves[0].copyFrom(shelf);
            chooseFrom(0, 0, 0, plan);
        }

        private void chooseFrom(int turn, int gone, int worth, Plan plan) {
            if (turn >= plan.readers || turn >= MOST_READERS) {
                takeIfBetter(worth);
                return;
            }
            for (int reader = 0; reader < plan.readers; reader++) {
                if ((gone >> reader & 1) != 0) {
                    continue;
                }
                chosen[turn] = reader;
                int gained = goByCatalogue(turn, reader, plan);
                chooseFrom(turn + 1, gone | 1 << reader, worth + gained, plan);
            }
        }

        // Orders come in the order of their readers, so a later one must be better, not as good.
        private void takeIfBetter(int worth) {
            if (worth > most) {
                most = worth;
                System.arraycopy(chosen, 0, best, 0, MOST_READERS);
            }
        }

        private int goByCatalogue(int turn, int reader, Plan plan) {
            Row shelf = shelves[turn + 1];
            shelf.copyFrom(shelves[turn]);
            Row catalogue = plan.catalogue;
            int wish = plan.wish[reader];
            int asked = catalogue.bookAt(catalogue.leftOf(catalogue.placeOf(wish)));
            int given = shelf.takeAt(shelf.placeGivenFor(asked));
            return given == wish ? plan.worth[reader] : 0;
        }
    }

    /**
     * Which first rows fit what was given. There are too many rows to try each: so the round trips
     * move the first row's places about, and a place is settled with a book only when a trip needs
     * to know; the books that are left over at the end may stand on the places left over in any order.
     */
    private static final class Guess {
        final int[] asked = new int[MOST_GIVEN];
        final int[] given = new int[MOST_GIVEN];
        int size;
        final Row[] places = new Row[MOST_GIVEN + 1];
        final int[] bookOn = new int[MOST_BOOKS];
        final int[] placeOf = new int[MOST_BOOKS];
        int books;
        int law;
        int total;
        final int[] stoodBits = new int[MOST_BOOKS];
        final int[] mayBeGiven = new int[MOST_BOOKS];

        Guess() {
            for (int i = 0; i <= MOST_GIVEN; i++) {
                places[i] = new Row();
            }
        }

        void add(int itsAsked, int itsGiven) {
            if (size < MOST_GIVEN) {
                asked[size] = itsAsked;
                given[size] = itsGiven;
                size++;
            }
        }

        void find(int ofBooks, int byLaw) {
            books = ofBooks;
            law = byLaw;
            total = 0;
            Arrays.fill(bookOn, NONE);
            Arrays.fill(placeOf, NONE);
            Arrays.fill(stoodBits, 0);
            Arrays.fill(mayBeGiven, 0);
            places[0].fillInTurn(books);
            follow(0);
        }

        int bestToAsk() {
            int best = NONE;
            int most = 0;
            for (int book = 0; book < books; book++) {
                int unlike = Integer.bitCount(mayBeGiven[book]);
                if (unlike > most) {
                    most = unlike;
                    best = book;
                }
            }
            return best;
        }

        private void follow(int trip) {
            if (trip >= size || trip >= MOST_GIVEN) {
                addFit(places[trip]);
                return;
            }
            int book = asked[trip];
            if (book >= books || given[trip] >= books) {
                return;
            }
            if (placeOf[book] != NONE) {
                askAt(trip, placeOf[book]);
                return;
            }
            for (int place = 0; place < books; place++) {
                if (bookOn[place] == NONE) {
                    settle(book, place);
                    askAt(trip, place);
                    unsettle(book, place);
                }
            }
        }

        private void askAt(int trip, int place) {
            Row after = places[trip + 1];
            after.copyFrom(places[trip]);
            int right = after.roundTrip(place, law);
            int book = given[trip];
            if (right == NONE) {
                return;
            }
            if (bookOn[right] == book) {
                follow(trip + 1);
            } else if (bookOn[right] == NONE && placeOf[book] == NONE) {
                settle(book, right);
                follow(trip + 1);
                unsettle(book, right);
            }
        }

        private void settle(int book, int place) {
            bookOn[place] = book;
            placeOf[book] = place;
        }

        private void unsettle(int book, int place) {
            bookOn[place] = NONE;
            placeOf[book] = NONE;
        }

        private void addFit(Row row) {
            int freeBooks = unsettled(placeOf);
            int freePlaces = unsettled(bookOn);
            total += FACTORIALS[Integer.bitCount(freeBooks)];
            for (int book = 0; book < books; book++) {
                stoodBits[book] |= placeOf[book] == NONE ? freePlaces : 1 << placeOf[book];
            }
            for (int i = 0; i < row.size; i++) {
                int left = bookOn[row.books[i]];
                int right = bookOn[row.books[row.rightOf(i)]];
                addMayBeGiven(left == NONE ? freeBooks : 1 << left, right == NONE ? freeBooks : 1 << right);
            }
        }

        private int unsettled(int[] partners) {
            int bits = 0;
            for (int i = 0; i < books; i++) {
                if (partners[i] == NONE) {
                    bits |= 1 << i;
                }
            }
            return bits;
        }

        private void addMayBeGiven(int leftBooks, int rightBooks) {
            for (int book = 0; book < books; book++) {
                if ((leftBooks >> book & 1) != 0) {
                    mayBeGiven[book] |= rightBooks & ~(1 << book);
                }
            }
        }
    }
}
