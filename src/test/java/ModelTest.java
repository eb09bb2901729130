import java.util.Random;

/** Random runs of all calls, right and wrong ones, each answer held against the model's (promises 1 to 31). */
public final class ModelTest {
    private static final int NONE = Check.NONE;
    private static final int[] STRANGE = {-1, -2, -9, 8, 9, 16, 31, 32, 64, 255, 256, Integer.MIN_VALUE, Integer.MAX_VALUE};

    private final Random random;
    private final Check check = new Check("ModelTest");
    private BesideBook x;
    private Model model;
    private int run;
    private int calls;
    private int mostBooks;
    private boolean acting;

    private ModelTest(long seed) {
        random = new Random(seed);
    }

    public static void main(String[] args) {
        ModelTest test = new ModelTest(20261118L);
        // Rows of eight books are dear to try one by one, so they come in fewer and shorter runs.
        test.runs(400, 500, 5);
        test.runs(150, 400, 6);
        test.runs(40, 120, 8);
        test.check.end();
    }

    private void runs(int many, int callsEach, int books) {
        mostBooks = books;
        for (int i = 0; i < many; i++) {
            run++;
            x = new BesideBook();
            model = new Model();
            calls = 0;
            // In every other run acts and what shows them come so close that the row of acts runs over.
            acting = i % 2 == 0;
            if (random.nextInt(8) != 0) {
                tell(libraryText());
            }
            for (int guard = 0; guard < callsEach && calls < 500; guard++) {
                someCall();
            }
        }
    }

    private int below(int n) {
        return random.nextInt(n);
    }

    /** Mostly from 0 to below n, at times just outside or strange. */
    private int number(int n) {
        int dice = below(40);
        if (dice == 0) {
            return STRANGE[below(STRANGE.length)];
        }
        return dice == 1 ? n : below(Math.max(n, 1));
    }

    private int aBook() {
        return number(model.count(1));
    }

    private int aReader() {
        return number(model.count(2));
    }

    private String permutation(int n) {
        StringBuilder left = new StringBuilder("012345678".substring(0, n));
        StringBuilder row = new StringBuilder();
        while (left.length() > 0) {
            int i = below(left.length());
            row.append(left.charAt(i));
            left.deleteCharAt(i);
        }
        return row.toString();
    }

    private String libraryText() {
        int n = 2 + below(mostBooks - 1);
        StringBuilder text = new StringBuilder("L").append(below(3)).append(n).append(permutation(n));
        int readers = below(6) == 0 ? 5 : below(5);
        int listed = below(3) == 0 ? NONE : below(readers + 1);
        for (int i = 0; i <= readers; i++) {
            if (i == listed) {
                text.append('C').append(permutation(n));
            }
            if (i < readers) {
                text.append('R').append(below(n)).append(below(10));
            }
        }
        return text.toString();
    }

    private String spoilt(String text) {
        int i = below(text.length());
        String other = String.valueOf("LCR0123456789X/:\0\377".charAt(below(18)));
        switch (below(4)) {
            case 0:
                return text.substring(0, i);
            case 1:
                return text.substring(0, i) + other + text.substring(i + 1);
            case 2:
                return text.substring(0, i) + other + text.substring(i);
            default:
                return text + other;
        }
    }

    private void tell(String text) {
        due("wipe()", x.wipe(), model.wipe());
        int place = 0;
        while (place < text.length()) {
            int n = 1 + below(Math.min(8, text.length() - place));
            long v = random.nextLong();
            for (int i = 0; i < n; i++) {
                v = v << 8 | text.charAt(place + i);
            }
            place += n;
            due("write(" + n + ", " + v + ")", x.write(n, v), model.write(n, v));
        }
        due("fault()", x.fault(), model.fault());
        due("library()", x.library(), model.library());
    }

    private void due(String call, long got, long want) {
        calls++;
        check.due("run " + run + ", call " + calls + ": " + call, got, want);
    }

    private void someCall() {
        if (acting && below(8) != 0) {
            if (below(3) == 0) {
                readCall();
            } else {
                actCall();
            }
            return;
        }
        switch (below(16)) {
            case 0:
                if (below(12) == 0) {
                    tell(below(3) == 0 ? spoilt(libraryText()) : libraryText());
                } else {
                    textCall();
                }
                break;
            case 1:
            case 2:
                readCall();
                break;
            case 3:
            case 4:
            case 5:
            case 6:
            case 7:
                actCall();
                break;
            case 8:
            case 9:
            case 10:
                goCall();
                break;
            case 11:
            case 12:
                rowCall();
                break;
            case 13:
            case 14:
                chanceCall();
                break;
            default:
                slotCall();
        }
    }

    private void textCall() {
        int n = number(9);
        long v = random.nextLong();
        switch (below(4)) {
            case 0:
                due("write(" + n + ", " + v + ")", x.write(n, v), model.write(n, v));
                break;
            case 1:
                due("fault()", x.fault(), model.fault());
                break;
            case 2:
                due("library()", x.library(), model.library());
                break;
            default:
                int law = number(3);
                due("law(" + law + ")", x.law(law), model.law(law));
        }
    }

    private void readCall() {
        int what = number(4);
        switch (below(4)) {
            case 0:
                int place = number(8);
                due("at(" + place + ")", x.at(place), model.at(place));
                break;
            case 1:
                int book = aBook();
                due("book(" + book + ", " + what + ")", x.book(book, what), model.book(book, what));
                break;
            case 2:
                int reader = aReader();
                due("reader(" + reader + ", " + what + ")", x.reader(reader, what), model.reader(reader, what));
                break;
            default:
                int counted = number(8);
                due("count(" + counted + ")", x.count(counted), model.count(counted));
        }
    }

    private void actCall() {
        int book = aBook();
        switch (below(7)) {
            case 0:
            case 1:
            case 2:
                int reader = aReader();
                due("ask(" + reader + ", " + book + ")", x.ask(reader, book), model.ask(reader, book));
                break;
            case 3:
            case 4:
                due("bring(" + book + ")", x.bring(book), model.bring(book));
                break;
            case 5:
                undoCalls();
                break;
            default:
                int n = 1 + number(4);
                int row = told();
                due("judge(" + n + ", " + row + ")", x.judge(n, row), model.judge(n, row));
        }
    }

    /** Mostly one, at times all that there are, what is away looked at in between. */
    private void undoCalls() {
        int more = below(6) == 0 ? model.count(4) : 0;
        due("undo()", x.undo(), model.undo());
        for (int i = 0; i < more && calls < 490; i++) {
            int book = below(model.count(1));
            due("book(" + book + ", 2)", x.book(book, 2), model.book(book, 2));
            due("undo()", x.undo(), model.undo());
        }
    }

    /** Round trips that can be, but for the last one at times; or any number. */
    private int told() {
        if (below(10) == 0) {
            return random.nextInt();
        }
        int row = 0;
        int trips = 1 + below(4);
        for (int i = 0; i < trips; i++) {
            int asked = model.at(below(8));
            asked = asked == NONE ? below(10) : asked;
            int given = model.at((Math.max(model.book(asked, 0), 0) + 1) % Math.max(1, model.count(3)));
            row = row * 100 + asked * 10 + (given == NONE ? below(10) : given);
        }
        return row;
    }

    private void goCall() {
        int book = aBook();
        int barred = below(3) == 0 ? 0 : number(1 << model.count(1));
        int i = number(6);
        int n = 1 + number(4);
        int row = below(10) == 0 ? random.nextInt() : below(below(2) == 0 ? 10000 : 10);
        switch (below(7)) {
            case 0:
                due("meant(" + book + ")", x.meant(book), model.meant(book));
                break;
            case 1:
                due("goes(" + book + ", " + barred + ")", x.goes(book, barred), model.goes(book, barred));
                break;
            case 2:
                due("goesAt(" + book + ", " + barred + ", " + i + ")", x.goesAt(book, barred, i), model.goesAt(book, barred, i));
                break;
            case 3:
                due("around(" + book + ")", x.around(book), model.around(book));
                break;
            case 4:
                due("never(" + n + ", " + row + ")", x.never(n, row), model.never(n, row));
                break;
            case 5:
                due("order()", x.order(), model.order());
                break;
            default:
                due("orderAt(" + i + ")", x.orderAt(i), model.orderAt(i));
        }
    }

    private void rowCall() {
        int book = aBook();
        switch (below(6)) {
            case 0:
            case 1:
                int other = aBook();
                due("given(" + book + ", " + other + ")", x.given(book, other), model.given(book, other));
                break;
            case 2:
                if (below(3) == 0) {
                    due("forget()", x.forget(), model.forget());
                }
                break;
            case 3:
                due("rows()", x.rows(), model.rows());
                break;
            case 4:
                due("stood(" + book + ")", x.stood(book), model.stood(book));
                break;
            default:
                due("next()", x.next(), model.next());
        }
    }

    private void chanceCall() {
        int book = aBook();
        int other = aBook();
        int m = number(7);
        int tenths = number(11);
        boolean upper = below(2) == 0;
        switch (below(5)) {
            case 0:
            case 1:
            case 2:
                due("clerk(" + book + ", " + other + ", " + m + ", " + tenths + ", " + upper + ")",
                    x.clerk(book, other, m, tenths, upper), model.clerk(book, other, m, tenths, upper));
                break;
            case 3:
                long v = random.nextLong();
                due("seed(" + v + ")", x.seed(v), model.seed(v));
                break;
            default:
                int reader = aReader();
                int trips = number(61);
                due("week(" + reader + ", " + trips + ")", x.week(reader, trips), model.week(reader, trips));
        }
    }

    private void slotCall() {
        int slot = number(2);
        if (below(2) == 0) {
            due("keep(" + slot + ")", x.keep(slot), model.keep(slot));
        } else {
            due("again(" + slot + ")", x.again(slot), model.again(slot));
        }
    }
}
