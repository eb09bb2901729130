/** Promises 21 to 25: a test for each sentence on what was given and the rows that fit that names an edge. */
public final class RowsEdgesTest {
    private static final Check check = new Check("RowsEdgesTest");

    public static void main(String[] args) {
        given();
        forget();
        rows();
        stood();
        next();
        check.end();
    }

    /** Of the ring 0 2 4 1 3, so that by LAW 1 there are five rows that fit; no other sixth one would do. */
    private static BesideBook sixGiven() {
        BesideBook x = Twins.busy();
        x.given(2, 4);
        x.given(4, 1);
        x.given(3, 0);
        x.given(0, 2);
        return x;
    }

    private static void given() {
        check.sentence("21: One more GIVEN: how many there are", RowsEdgesTest::howManyAreGiven);
        check.sentence("21: UNKNOWN: asked", RowsEdgesTest::givenForUnknown);
        check.sentence("21: UNKNOWN: given", RowsEdgesTest::givenUnknown);
        check.sentence("21: FULL: 6", RowsEdgesTest::givenFull);
        check.sentence("21: of several the first: UNKNOWN, FULL", RowsEdgesTest::givenRefusedTwice);
        check.sentence("21: from some row on, not from THE SHELF", RowsEdgesTest::givenOfWhatIsAway);
    }

    private static void howManyAreGiven() {
        BesideBook x = Check.open("L0801234567");
        for (int i = 1; i <= 6; i++) {
            check.due("given(7, 0)", x.given(7, 0), i);
            check.due("GIVEN", x.count(5), i);
        }
        BesideBook two = new BesideBook();
        check.due("the same for itself", two.given(1, 1), 1);
    }

    private static void givenForUnknown() {
        Twins twins = new Twins(check, Twins::busy);
        for (int book : Check.outside(0, 4)) {
            twins.still("given(" + book + ", 0)", x -> x.given(book, 0), Check.UNKNOWN);
        }
        check.due("the last BOOK", Twins.busy().given(4, 0), 3);
    }

    private static void givenUnknown() {
        Twins twins = new Twins(check, Twins::busy);
        for (int book : Check.outside(0, 4)) {
            twins.still("given(0, " + book + ")", x -> x.given(0, book), Check.UNKNOWN);
            twins.still("given(" + book + ", " + book + ")", x -> x.given(book, book), Check.UNKNOWN);
        }
        check.due("the last BOOK", Twins.busy().given(0, 4), 3);
    }

    private static void givenFull() {
        Twins twins = new Twins(check, RowsEdgesTest::sixGiven);
        for (int book = 0; book < 5; book++) {
            int given = book;
            twins.still("given(0, " + book + ")", x -> x.given(0, given), Check.FULL);
        }
        BesideBook x = sixGiven();
        check.due("GIVEN", x.count(5), 6);
        x.given(0, 1);
        check.due("GIVEN still", x.count(5), 6);
        x.forget();
        check.due("there is room again", x.given(0, 1), 1);
    }

    private static void givenRefusedTwice() {
        Twins twins = new Twins(check, RowsEdgesTest::sixGiven);
        for (int book : Check.outside(0, 4)) {
            twins.still("given(" + book + ", 0)", x -> x.given(book, 0), Check.UNKNOWN);
            twins.still("given(0, " + book + ")", x -> x.given(0, book), Check.UNKNOWN);
        }
    }

    private static void givenOfWhatIsAway() {
        BesideBook x = Twins.busy();
        x.forget();
        check.due("1 and 4 are away", x.given(1, 4), 1);
        check.due("all rows of 5, 1 beside 4", x.rows(), 30);
        check.due("anywhere, one more than stand there", x.stood(1), 31);
    }

    private static void forget() {
        check.sentence("22: Nothing is GIVEN", RowsEdgesTest::nothingIsGiven);
        check.sentence("22: how many there were", RowsEdgesTest::howManyThereWere);
        check.sentence("21, 22: nothing else changes", RowsEdgesTest::onlyWhatIsGiven);
    }

    private static void nothingIsGiven() {
        BesideBook x = sixGiven();
        check.due("five rows fit", x.rows(), 5);
        x.forget();
        check.due("GIVEN", x.count(5), 0);
        check.due("all rows fit", x.rows(), 120);
        check.due("one more", x.given(0, 1), 1);
        check.due("of that one alone", x.rows(), 30);
        Twins twins = new Twins(check, () -> {
            BesideBook busy = Twins.busy();
            busy.forget();
            return busy;
        });
        twins.still("forget() of nothing", BesideBook::forget, 0);
    }

    private static void onlyWhatIsGiven() {
        Twins.areBusy(check, () -> {
            BesideBook x = Twins.busy();
            x.given(4, 0);
            x.forget();
            x.given(0, 2);
            x.given(1, 3);
            return x;
        });
    }

    private static void howManyThereWere() {
        check.due("none", new BesideBook().forget(), 0);
        for (int many = 1; many <= 6; many++) {
            BesideBook x = new BesideBook();
            for (int i = 0; i < many; i++) {
                x.given(0, 1);
            }
            check.due("forget() of " + many, x.forget(), many);
            check.due("forget() again", x.forget(), 0);
        }
        BesideBook full = sixGiven();
        full.given(0, 1);
        check.due("a seventh did not come", full.forget(), 6);
    }

    private static void rows() {
        check.sentence("23: of all rows of n BOOKS: nothing GIVEN", RowsEdgesTest::allRows);
        check.sentence("23: by LAW as it is", RowsEdgesTest::byLawAsItIs);
        check.sentence("23: of the last: the first", RowsEdgesTest::rowsOfTheLast);
        check.sentence("23: one behind the other", RowsEdgesTest::oneBehindTheOther);
        check.sentence("23: no row fits", RowsEdgesTest::noRowFits);
        check.sentence("23: What is GIVEN of a BOOK that there is not any more fits no row", RowsEdgesTest::notAnyMore);
        check.sentence("23: such a BOOK that there is again", RowsEdgesTest::thereAgain);
        check.sentence("23: rows changes nothing", () -> new Twins(check, Twins::busy).still("rows()", BesideBook::rows, 10));
    }

    private static void allRows() {
        int all = 1;
        for (int n = 2; n <= 8; n++) {
            all *= n;
            BesideBook x = Check.open("L0" + n + "01234567".substring(0, n));
            check.due("rows of " + n, x.rows(), all);
            x.given(0, n - 1);
            check.due("rows of " + n + ", one GIVEN", x.rows(), all / (n - 1));
        }
    }

    /** 0 1 2, 1 2 0 and 2 0 1 give 1 for 0; by law 1 again and again, by the others not where 1 goes from its side. */
    private static void byLawAsItIs() {
        BesideBook x = Check.open("L03012");
        x.given(0, 1);
        x.given(0, 1);
        int[] due = {2, 3, 2};
        for (int law = 0; law < 3; law++) {
            x.law(law);
            check.due("rows by LAW " + law, x.rows(), due[law]);
        }
        int[] places = {5, 7, 5};
        for (int law = 0; law < 3; law++) {
            x.law(law);
            check.due("stood(1) by LAW " + law, x.stood(1), places[law]);
        }
    }

    private static void rowsOfTheLast() {
        BesideBook two = new BesideBook();
        two.given(1, 0);
        check.due("0 1 and 1 0", two.rows(), 2);
        BesideBook x = Check.open("L0801234567");
        x.given(7, 0);
        check.due("0 is first in some of them", x.stood(0), 255);
        check.due("7 is last in some of them", x.stood(7), 255);
        x.given(7, 0);
        // 0 goes to the end: 7 stood there, or last but one with 0 behind it.
        check.due("twice 0 for 7", x.rows(), 1440);
        check.due("7 stood last, or last but one", x.stood(7), 192);
        check.due("0 stood first, or last", x.stood(0), 129);
    }

    private static void oneBehindTheOther() {
        BesideBook x = Check.open("L03012");
        x.given(0, 1);
        x.given(0, 2);
        check.due("1, then 2", x.rows(), 1);
        check.due("0 1 2", x.stood(2), 4);
        x.forget();
        x.given(0, 2);
        x.given(0, 1);
        check.due("2, then 1", x.rows(), 1);
        check.due("0 2 1", x.stood(2), 2);
    }

    private static void noRowFits() {
        for (int law = 0; law < 3; law++) {
            BesideBook x = Check.open("L" + law + "3012");
            x.given(1, 1);
            check.due("itself, by LAW " + law, x.rows(), 0);
            x.forget();
            for (int i = 0; i < 5; i++) {
                x.given(0, 1);
            }
            check.due("1 five times", x.rows(), law == 1 ? 3 : 2);
            x.given(1, 1);
            check.due("and a sixth one that fits none", x.rows(), 0);
        }
    }

    /** Three books, something given of the third, then two books. */
    private static BesideBook lessBooks(int... given) {
        BesideBook x = Check.open("L03012");
        for (int i = 0; i < given.length; i += 2) {
            x.given(given[i], given[i + 1]);
        }
        Check.told(x, "L0201");
        x.library();
        return x;
    }

    private static void notAnyMore() {
        int[][] gone = {{2, 0}, {0, 2}, {2, 2}, {0, 1, 2, 0}, {0, 1, 1, 2}, {2, 1, 0, 1}};
        for (int[] given : gone) {
            BesideBook x = lessBooks(given);
            check.due("they are GIVEN still", x.count(5), given.length / 2);
            check.due("rows()", x.rows(), 0);
            check.due("stood(0)", x.stood(0), 0);
            check.due("stood(1)", x.stood(1), 0);
            check.due("next()", x.next(), Check.NONE);
            check.due("forget()", x.forget(), given.length / 2);
            check.due("rows() then", x.rows(), 2);
        }
        check.due("of BOOKS that there are", lessBooks(0, 1, 1, 0).rows(), 2);
    }

    private static void thereAgain() {
        BesideBook x = lessBooks(2, 0);
        check.due("rows()", x.rows(), 0);
        Check.told(x, "L040123");
        x.library();
        check.due("rows of four", x.rows(), 8);
        check.due("stood(3)", x.stood(3), 15);
    }

    private static void stood() {
        check.sentence("24: bits: places from the left", RowsEdgesTest::placesFromTheLeft);
        check.sentence("24: nothing GIVEN: anywhere", RowsEdgesTest::stoodAnywhere);
        check.sentence("24: at first, not behind what was GIVEN", RowsEdgesTest::stoodAtFirst);
        check.sentence("24: 0: no row fits", RowsEdgesTest::stoodNowhere);
        check.sentence("24: UNKNOWN", RowsEdgesTest::stoodUnknown);
        check.sentence("24: UNKNOWN, though no row fits", RowsEdgesTest::stoodUnknownOfNone);
        check.sentence("24: stood changes nothing", () -> new Twins(check, Twins::busy).still("stood(4)", x -> x.stood(4), 31));
    }

    private static void placesFromTheLeft() {
        BesideBook x = Check.open("L03012");
        x.given(0, 1);
        x.given(0, 2);
        for (int book = 0; book < 3; book++) {
            check.due("0 1 2: stood(" + book + ")", x.stood(book), 1 << book);
        }
    }

    private static void stoodAnywhere() {
        for (int n = 2; n <= 8; n++) {
            BesideBook x = Check.open("L0" + n + "01234567".substring(0, n));
            for (int book = 0; book < n; book++) {
                check.due("stood(" + book + ") of " + n, x.stood(book), (1 << n) - 1);
            }
        }
    }

    /** By LAW 2 this fits 1 2 0 and 2 0 1, and both of them are 1 2 0 behind it. */
    private static void stoodAtFirst() {
        BesideBook x = Check.open("L23012");
        x.given(0, 1);
        x.given(0, 1);
        check.due("stood(0)", x.stood(0), 6);
        check.due("stood(1)", x.stood(1), 5);
        check.due("stood(2)", x.stood(2), 3);
    }

    private static void stoodNowhere() {
        BesideBook x = Check.open("L03012");
        x.given(2, 2);
        for (int book = 0; book < 3; book++) {
            check.due("stood(" + book + ")", x.stood(book), 0);
        }
        x.forget();
        check.due("anywhere again", x.stood(0), 7);
    }

    private static void stoodUnknown() {
        Twins twins = new Twins(check, Twins::busy);
        for (int book : Check.outside(0, 4)) {
            twins.still("stood(" + book + ")", x -> x.stood(book), Check.UNKNOWN);
        }
    }

    private static void stoodUnknownOfNone() {
        Twins twins = new Twins(check, () -> {
            BesideBook x = Twins.busy();
            x.given(2, 2);
            return x;
        });
        for (int book : Check.outside(0, 4)) {
            twins.still("stood(" + book + ")", x -> x.stood(book), Check.UNKNOWN);
        }
        BesideBook less = lessBooks(2, 0);
        check.due("a BOOK that there is not any more", less.stood(2), Check.UNKNOWN);
    }

    private static void next() {
        check.sentence("25: nothing GIVEN", RowsEdgesTest::nextOfNothing);
        check.sentence("25: for which most unlike ones might be given", RowsEdgesTest::mostUnlike);
        check.sentence("25: of like ones the least", RowsEdgesTest::theLeast);
        check.sentence("25: behind these", RowsEdgesTest::behindThese);
        check.sentence("25: NONE: no row fits", RowsEdgesTest::nextOfNoRow);
        check.sentence("25: next changes nothing", () -> new Twins(check, Twins::busy).still("next()", BesideBook::next, 2));
    }

    private static void nextOfNothing() {
        for (int n = 2; n <= 8; n++) {
            for (int law = 0; law < 3; law++) {
                BesideBook x = Check.open("L" + law + n + "01234567".substring(0, n));
                check.due("next() of " + n, x.next(), 0);
            }
        }
    }

    /** By LAW 1 neighbours stay beside one another: for one of which that is known nothing else is given. */
    private static void mostUnlike() {
        BesideBook x = Check.open("L1501234");
        x.given(0, 1);
        check.due("0 1: for 1 three might be given", x.next(), 1);
        x.given(1, 2);
        check.due("0 1 2: for 2 two might be given", x.next(), 2);
        x.forget();
        x.given(1, 0);
        check.due("1 0: for 0 three might be given", x.next(), 0);
        x.given(0, 2);
        check.due("1 0 2: for 2 two might be given", x.next(), 2);
    }

    private static void theLeast() {
        BesideBook x = Check.open("L1501234");
        x.given(0, 4);
        check.due("1, 2, 3 and 4 are alike", x.next(), 1);
        x.given(4, 1);
        check.due("1, 2 and 3 are alike", x.next(), 1);
        x.given(1, 2);
        check.due("one ring is left: all are alike", x.next(), 0);
        BesideBook one = Check.open("L03012");
        one.given(0, 1);
        one.given(0, 2);
        check.due("one row is left: all are alike", one.next(), 0);
    }

    /** By LAW 0 1 goes to the end: so at first 0 might have three neighbours then, behind the second time only 1. */
    private static void behindThese() {
        BesideBook x = Check.open("L040123");
        x.given(0, 1);
        check.due("for 0 there might be given 1, 2 or 3", x.next(), 0);
        x.given(0, 1);
        check.due("for 0 there is given 1, for 1 there might be 2 or 3", x.next(), 1);
    }

    private static void nextOfNoRow() {
        BesideBook x = new BesideBook();
        x.given(0, 0);
        check.due("two BOOKS", x.next(), Check.NONE);
        BesideBook eight = Check.open("L0801234567");
        eight.given(0, 0);
        check.due("eight BOOKS", eight.next(), Check.NONE);
        eight.forget();
        check.due("all rows again", eight.next(), 0);
    }
}
