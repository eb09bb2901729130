import java.util.Random;

/** Promises 21 to 25: given, forget, rows, stood, next. */
public final class RowsTest {
    private static final Check check = new Check("RowsTest");

    public static void main(String[] args) {
        given();
        forget();
        eachAloneTellsAsMuch();
        rowsOfThree();
        lawAsItIs();
        allRows();
        rowsOfAllBooks();
        booksThatAreNotAnyMore();
        next();
        fittingRows();
        check.end();
    }

    private static void given() {
        BesideBook x = Check.open("L03012R00");
        x.ask(0, 0);
        for (int i = 1; i <= 6; i++) {
            check.due("given", x.given(1, i % 3), i);
            check.due("count", x.count(5), i);
        }
        check.due("a seventh", x.given(0, 1), Check.FULL);
        check.due("UNKNOWN comes ahead of FULL", x.given(0, 3), Check.UNKNOWN);
    }

    private static void forget() {
        BesideBook x = Check.open("L03012");
        check.due("nothing", x.forget(), 0);
        x.given(0, 1);
        x.given(0, 2);
        check.due("one row", x.rows(), 1);
        check.due("forget", x.forget(), 2);
        check.due("count", x.count(5), 0);
        check.due("all rows", x.rows(), 6);
        check.due("again", x.forget(), 0);
        check.due("given anew", x.given(1, 2), 1);
        check.due("three rows", x.rows(), 3);
    }

    private static void eachAloneTellsAsMuch() {
        BesideBook x = Check.open("L03012");
        check.due("stood, rows not asked for before", x.stood(1), 7);
        x.given(0, 1);
        x.given(0, 2);
        check.due("stood, rows not asked for since", x.stood(1), 2);
        x.given(0, 0);
        check.due("next, rows not asked for since", x.next(), Check.NONE);
        x.forget();
        check.due("stood, all forgotten", x.stood(1), 7);
    }

    private static void rowsOfThree() {
        BesideBook x = Check.open("L03012");
        check.due("all", x.rows(), 6);
        check.due("anywhere", x.stood(1), 7);
        x.given(0, 1);
        check.due("012, 120, 201", x.rows(), 3);
        check.due("anywhere", x.stood(0), 7);
        check.due("two may be given for each", x.next(), 0);
        x.given(0, 2);
        check.due("012", x.rows(), 1);
        for (int book = 0; book < 3; book++) {
            check.due("stood(" + book + ")", x.stood(book), 1 << book);
        }
        check.due("all is known", x.next(), 0);
        x.given(1, 1);
        check.due("one is never given itself", x.rows(), 0);
        check.due("no row: stood", x.stood(2), 0);
        check.due("no row: next", x.next(), Check.NONE);
    }

    private static void lawAsItIs() {
        BesideBook x = Check.open("L03012");
        x.given(0, 1);
        x.given(0, 1);
        check.due("law 0: 120, 201", x.rows(), 2);
        check.due("law 0: stood(1)", x.stood(1), 5);
        x.law(1);
        check.due("law 1: 012, 120, 201", x.rows(), 3);
        check.due("law 1: stood(1)", x.stood(1), 7);
        x.law(2);
        check.due("law 2: 120, 201", x.rows(), 2);
        check.due("law 2: stood(1)", x.stood(1), 5);
        x.given(1, 2);
        check.due("law 2: both stand 120 then", x.rows(), 2);
        x.law(0);
        check.due("law 0: both stand 201 then", x.rows(), 2);
        x.given(0, 2);
        check.due("law 0: 1 is given no more", x.rows(), 0);
    }

    private static void allRows() {
        int[] factorials = {2, 6, 24, 120, 720, 5040, 40320};
        String books = "01234567";
        for (int n = 2; n <= 8; n++) {
            BesideBook x = Check.open("L0" + n + books.substring(0, n));
            check.due("rows of " + n, x.rows(), factorials[n - 2]);
            check.due("stood", x.stood(n - 1), (1 << n) - 1);
            check.due("next", x.next(), 0);
            x.given(0, 1);
            check.due("one neighbour is known", x.rows(), factorials[n - 2] / (n - 1));
        }
    }

    private static void rowsOfAllBooks() {
        BesideBook x = Check.open("L03210R00");
        x.ask(0, 2);
        x.given(0, 1);
        check.due("the shelf does not matter, nor what is away", x.rows(), 3);
        x.bring(1);
        check.due("nor that it is back", x.rows(), 3);
    }

    private static void booksThatAreNotAnyMore() {
        for (int[] gone : new int[][] {{2, 0}, {0, 2}}) {
            BesideBook x = Check.open("L03012");
            x.given(gone[0], gone[1]);
            check.due("three rows", x.rows(), 3);
            x.wipe();
            Check.write(x, "L0201");
            x.library();
            check.due("it stays given", x.count(5), 1);
            check.due("no row", x.rows(), 0);
            check.due("stood nowhere", x.stood(0), 0);
            check.due("nothing to ask", x.next(), Check.NONE);
            x.wipe();
            Check.write(x, "L03012");
            x.library();
            check.due("there it is again", x.rows(), 3);
        }
    }

    private static void next() {
        // By law 1 neighbours stay, so that for 0 nothing but 1 is given any more.
        BesideBook x = Check.open("L140123");
        x.given(0, 1);
        check.due("0 tells nothing more", x.next(), 1);
        x.given(1, 2);
        check.due("all are known: the least", x.next(), 0);
        x.forget();
        x.given(0, 3);
        check.due("1 and 2 tell most", x.next(), 1);
        x.given(3, 1);
        check.due("all are known", x.next(), 0);
    }

    /** What is given from a hidden row on fits it: these runs go deeper than any chance numbers would. */
    private static void fittingRows() {
        Random random = new Random(31);
        for (int run = 0; run < 240; run++) {
            int n = run % 40 == 0 ? 8 : 2 + random.nextInt(5);
            int law = run % 3;
            StringBuilder row = new StringBuilder();
            while (row.length() < n) {
                char figure = (char) ('0' + random.nextInt(n));
                if (row.indexOf(String.valueOf(figure)) < 0) {
                    row.append(figure);
                }
            }
            String text = "L" + law + n + row + "R00";
            BesideBook x = Check.open(text);
            Model model = new Model();
            for (char sign : text.toCharArray()) {
                model.write(1, sign);
            }
            model.library();
            for (int trip = 0; trip < 6; trip++) {
                int asked = random.nextInt(n);
                int got = x.ask(0, asked);
                x.bring(got);
                x.given(asked, got);
                model.given(asked, got);
                check.due(text + " rows behind " + trip, x.rows(), model.rows());
                check.due(text + " next behind " + trip, x.next(), model.next());
                int book = random.nextInt(n);
                check.due(text + " stood behind " + trip, x.stood(book), model.stood(book));
            }
            check.holds("the hidden row fits", x.rows() > 0);
        }
    }
}
