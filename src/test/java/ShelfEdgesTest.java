/** Promises 6 to 9: a test for each sentence on what is read of the shelf, and on the law, that names an edge. */
public final class ShelfEdgesTest {
    private static final Check check = new Check("ShelfEdgesTest");

    public static void main(String[] args) {
        check.sentence("6: a place (from 0, from the left)", ShelfEdgesTest::fromTheLeft);
        check.sentence("6: NONE: there is none so far: below 0", () -> noneAt(5, Integer.MIN_VALUE, -9, -2, -1));
        check.sentence("6: NONE: there is none so far: behind the last", ShelfEdgesTest::behindTheLast);
        check.sentence("6: NONE: there is none so far: nothing stands there", ShelfEdgesTest::atOfAnEmptyShelf);
        check.sentence("7: its place (0; NONE: it is away)", ShelfEdgesTest::itsPlace);
        check.sentence("7: who has it (1; NONE)", ShelfEdgesTest::whoHasIt);
        check.sentence("7: what was asked for when it was given (2; NONE: it stands there)", ShelfEdgesTest::whatWasAskedFor);
        check.sentence("7: its place in THE CATALOGUE (3)", ShelfEdgesTest::inTheCatalogue);
        check.sentence("7: UNKNOWN", ShelfEdgesTest::unknownBook);
        check.sentence("7: OUTSIDE", ShelfEdgesTest::bookOutside);
        check.sentence("7: of several the first: UNKNOWN, OUTSIDE", ShelfEdgesTest::bookRefusedTwice);
        check.sentence("8: its wish (0), WORTH (1)", ShelfEdgesTest::wishAndWorth);
        check.sentence("8: what it has (2: bits)", ShelfEdgesTest::whatItHas);
        check.sentence("8: whether it has its wish (3: 1, 0)", ShelfEdgesTest::whetherItHasItsWish);
        check.sentence("8: UNKNOWN", ShelfEdgesTest::unknownReader);
        check.sentence("8: UNKNOWN: no READERS", ShelfEdgesTest::noReaders);
        check.sentence("8: OUTSIDE", ShelfEdgesTest::readerOutside);
        check.sentence("8: of several the first: UNKNOWN, OUTSIDE", ShelfEdgesTest::readerRefusedTwice);
        check.sentence("9: The LAW is another one: what it was", ShelfEdgesTest::whatTheLawWas);
        check.sentence("9: nothing else changes", ShelfEdgesTest::lawChangesNothingElse);
        check.sentence("9: OUTSIDE", ShelfEdgesTest::lawOutside);
        check.sentence("6 to 8: what is only read changes nothing", ShelfEdgesTest::readingChangesNothing);
        check.end();
    }

    private static void fromTheLeft() {
        BesideBook x = Check.open("L0876543210R00");
        for (int place = 0; place < 8; place++) {
            check.due("at(" + place + ")", x.at(place), 7 - place);
        }
        x.ask(0, 7);
        check.due("the first", x.at(0), 7);
        check.due("the gap is closed", x.at(1), 5);
        check.due("the last", x.at(6), 0);
    }

    private static void noneAt(int books, int... places) {
        BesideBook x = Check.open("L0" + books + "01234567".substring(0, books));
        for (int place : places) {
            check.due("at(" + place + ") of " + books, x.at(place), Check.NONE);
        }
    }

    private static void behindTheLast() {
        for (int n = 2; n <= 8; n++) {
            noneAt(n, n, n + 1, 8, 9, 32, 256, Integer.MAX_VALUE);
        }
        BesideBook x = Twins.busy();
        check.due("the last of three", x.at(2), 3);
        check.due("two are away", x.at(3), Check.NONE);
        check.due("two are away", x.at(4), Check.NONE);
    }

    private static BesideBook emptyShelf() {
        BesideBook x = Check.open("L0201R05");
        x.ask(0, 0);
        x.ask(0, 0);
        return x;
    }

    private static void atOfAnEmptyShelf() {
        BesideBook x = emptyShelf();
        for (int place = -1; place < 3; place++) {
            check.due("at(" + place + ")", x.at(place), Check.NONE);
        }
    }

    private static void itsPlace() {
        BesideBook x = Twins.busy();
        int[] due = {0, Check.NONE, 1, 2, Check.NONE};
        for (int book = 0; book < 5; book++) {
            check.due("place of " + book, x.book(book, 0), due[book]);
        }
        BesideBook empty = emptyShelf();
        check.due("place of 0", empty.book(0, 0), Check.NONE);
        check.due("place of 1", empty.book(1, 0), Check.NONE);
    }

    private static void whoHasIt() {
        BesideBook x = Twins.busy();
        int[] due = {Check.NONE, 3, Check.NONE, Check.NONE, 1};
        for (int book = 0; book < 5; book++) {
            check.due("who has " + book, x.book(book, 1), due[book]);
        }
        BesideBook empty = emptyShelf();
        check.due("the first READER has 0", empty.book(0, 1), 0);
        empty.bring(0);
        check.due("nobody has it any more", empty.book(0, 1), Check.NONE);
    }

    private static void whatWasAskedFor() {
        BesideBook x = Twins.busy();
        int[] due = {Check.NONE, 2, Check.NONE, Check.NONE, 3};
        for (int book = 0; book < 5; book++) {
            check.due("what was asked for when " + book + " was given", x.book(book, 2), due[book]);
        }
        BesideBook empty = emptyShelf();
        check.due("1 for 0", empty.book(1, 2), 0);
        check.due("alone: itself", empty.book(0, 2), 0);
        empty.bring(0);
        check.due("it stands there again", empty.book(0, 2), Check.NONE);
    }

    private static void inTheCatalogue() {
        BesideBook x = Twins.busy();
        for (int book = 0; book < 5; book++) {
            check.due("place of " + book + ", be it away or not", x.book(book, 3), 4 - book);
        }
    }

    private static void unknownBook() {
        Twins twins = new Twins(check, Twins::busy);
        for (int book : Check.outside(0, 4)) {
            for (int what = 0; what < 4; what++) {
                int wanted = what;
                twins.still("book(" + book + ", " + what + ")", x -> x.book(book, wanted), Check.UNKNOWN);
            }
        }
        for (int n = 2; n <= 8; n++) {
            BesideBook x = Check.open("L0" + n + "01234567".substring(0, n));
            check.due("the last of " + n, x.book(n - 1, 0), n - 1);
            check.due("behind the last of " + n, x.book(n, 0), Check.UNKNOWN);
        }
    }

    private static void bookOutside() {
        Twins twins = new Twins(check, Twins::busy);
        for (int what : Check.outside(0, 3)) {
            twins.still("book(0, " + what + ")", x -> x.book(0, what), Check.OUTSIDE);
            twins.still("book(4, " + what + "), it is away", x -> x.book(4, what), Check.OUTSIDE);
        }
    }

    private static void bookRefusedTwice() {
        Twins twins = new Twins(check, Twins::busy);
        for (int book : Check.outside(0, 4)) {
            twins.still("book(" + book + ", -1)", x -> x.book(book, -1), Check.UNKNOWN);
            twins.still("book(" + book + ", 4)", x -> x.book(book, 4), Check.UNKNOWN);
        }
    }

    private static void wishAndWorth() {
        BesideBook x = Check.open("L0801234567R00R79R70R09");
        int[] wishes = {0, 7, 7, 0};
        int[] worths = {0, 9, 0, 9};
        for (int reader = 0; reader < 4; reader++) {
            check.due("wish of " + reader, x.reader(reader, 0), wishes[reader]);
            check.due("WORTH of " + reader, x.reader(reader, 1), worths[reader]);
        }
    }

    private static void whatItHas() {
        BesideBook x = Check.open("L0801234567R00R79R70R09");
        int bits = 0;
        check.due("nothing", x.reader(3, 2), 0);
        for (int i = 0; i < 8; i++) {
            bits |= 1 << x.ask(3, 0);
            check.due("one more", x.reader(3, 2), bits);
        }
        check.due("all", x.reader(3, 2), 255);
        for (int reader = 0; reader < 3; reader++) {
            check.due("another READER has nothing", x.reader(reader, 2), 0);
        }
        x.bring(0);
        check.due("all but 0", x.reader(3, 2), 254);
        x.bring(7);
        check.due("all but 0 and 7", x.reader(3, 2), 126);
    }

    private static void whetherItHasItsWish() {
        BesideBook x = Check.open("L040123R10R10R00");
        check.due("nobody has it", x.reader(0, 3), 0);
        check.due("ask(1, 0)", x.ask(1, 0), 1);
        check.due("another one has it", x.reader(0, 3), 0);
        check.due("it has it", x.reader(1, 3), 1);
        check.due("ask(1, 3)", x.ask(1, 3), 0);
        check.due("it has it and another one", x.reader(1, 3), 1);
        check.due("its wish, with another one", x.reader(2, 3), 0);
        check.due("ask(2, 2)", x.ask(2, 2), 3);
        check.due("it has another BOOK", x.reader(2, 3), 0);
        x.bring(1);
        check.due("brought back", x.reader(1, 3), 0);
        x.undo();
        check.due("that is undone", x.reader(1, 3), 1);
    }

    private static void unknownReader() {
        Twins twins = new Twins(check, Twins::busy);
        for (int reader : Check.outside(0, 3)) {
            for (int what = 0; what < 4; what++) {
                int wanted = what;
                twins.still("reader(" + reader + ", " + what + ")", x -> x.reader(reader, wanted), Check.UNKNOWN);
            }
        }
        for (int many = 1; many < 4; many++) {
            BesideBook x = Check.open("L0201" + "R15".repeat(many));
            check.due("the last of " + many, x.reader(many - 1, 1), 5);
            check.due("behind the last of " + many, x.reader(many, 1), Check.UNKNOWN);
        }
    }

    private static void noReaders() {
        Twins twins = new Twins(check, BesideBook::new);
        for (int what = 0; what < 4; what++) {
            int wanted = what;
            twins.still("reader(0, " + what + ")", x -> x.reader(0, wanted), Check.UNKNOWN);
        }
    }

    private static void readerOutside() {
        Twins twins = new Twins(check, Twins::busy);
        for (int what : Check.outside(0, 3)) {
            twins.still("reader(0, " + what + ")", x -> x.reader(0, what), Check.OUTSIDE);
            twins.still("reader(3, " + what + ")", x -> x.reader(3, what), Check.OUTSIDE);
        }
    }

    private static void readerRefusedTwice() {
        Twins twins = new Twins(check, Twins::busy);
        for (int reader : Check.outside(0, 3)) {
            twins.still("reader(" + reader + ", -1)", x -> x.reader(reader, -1), Check.UNKNOWN);
            twins.still("reader(" + reader + ", 4)", x -> x.reader(reader, 4), Check.UNKNOWN);
        }
    }

    private static void whatTheLawWas() {
        BesideBook x = new BesideBook();
        int was = 0;
        for (int law : new int[] {0, 1, 1, 2, 2, 0, 2, 1, 0}) {
            check.due("law(" + law + ")", x.law(law), was);
            check.due("the LAW", x.count(6), law);
            was = law;
        }
    }

    private static void lawChangesNothingElse() {
        Twins twins = new Twins(check, Twins::busy);
        twins.still("law(1), which it is", x -> x.law(1), 1);
        twins.still("another one and back", x -> 10 * x.law(2) + x.law(1), 12);
        Twins.areBusy(check, () -> {
            BesideBook x = Twins.busy();
            x.law(2);
            x.law(0);
            x.law(1);
            return x;
        });
    }

    private static void lawOutside() {
        Twins twins = new Twins(check, Twins::busy);
        for (int law : Check.outside(0, 2)) {
            twins.still("law(" + law + ")", x -> x.law(law), Check.OUTSIDE);
        }
    }

    private static void readingChangesNothing() {
        Twins twins = new Twins(check, Twins::busy);
        twins.still("at(2)", x -> x.at(2), 3);
        twins.still("at(3)", x -> x.at(3), Check.NONE);
        int[] book = {Check.NONE, 3, 2, 3};
        int[] reader = {0, 4, 2, 0};
        for (int what : new int[] {0, 1, 2, 3}) {
            twins.still("book(1, " + what + ")", x -> x.book(1, what), book[what]);
            twins.still("reader(3, " + what + ")", x -> x.reader(3, what), reader[what]);
        }
    }
}
