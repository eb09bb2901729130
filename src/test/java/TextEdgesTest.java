/** Promises 1 to 5: a test for each sentence on the text and the library that names an edge. */
public final class TextEdgesTest {
    private static final Check check = new Check("TextEdgesTest");
    private static final String FIGURES = "0123456789";
    private static final String LONGEST = "L2801234567C76543210R70R71R72R79";
    private static final String[] FAULTY = {"", "X", "L", "L3", "L2", "L01", "L09", "L02", "L020", "L0200", "L0202", "L0201X",
        "L0201C", "L0201C1", "L0201C11", "L0201C10C", "L0201C10C10", "L0201R", "L0201R2", "L0201R1", "L0201R1X",
        "L0201R15R15R15R15R", "L0201R15R15R15R15R15", LONGEST + "R", LONGEST + "\0\0\0\0\0\0\0\0"};

    public static void main(String[] args) {
        newObject();
        write();
        wipe();
        fault();
        faultAsAWhole();
        library();
        check.end();
    }

    private static void newObject() {
        check.sentence("1: Two books, no readers", TextEdgesTest::twoBooksNoReaders);
        check.sentence("1: At first THE LIBRARY is L0201", TextEdgesTest::atFirst);
        check.sentence("1: THE SEED, a long; 0 at first", () -> check.due("seed(1)", new BesideBook().seed(1), 0));
    }

    private static void twoBooksNoReaders() {
        BesideBook x = new BesideBook();
        check.due("BOOKS", x.count(1), 2);
        check.due("READERS", x.count(2), 0);
        check.due("BOOKS that stand there", x.count(3), 2);
        check.due("the last BOOK", x.book(1, 0), 1);
        check.due("no third BOOK", x.book(2, 0), Check.UNKNOWN);
        check.due("no READER", x.reader(0, 0), Check.UNKNOWN);
    }

    private static void atFirst() {
        Twins.areAlike(check, BesideBook::new, () -> {
            BesideBook told = Check.open("L0201");
            told.wipe();
            return told;
        });
        BesideBook x = new BesideBook();
        Check.shelfIs(check, x, "01");
        check.due("LAW", x.count(6), 0);
        check.due("THE TEXT is empty all the same", x.count(0), 0);
        check.due("no ACTS", x.undo(), Check.STATE);
        check.due("nothing GIVEN", x.forget(), 0);
        check.due("nothing was kept in 0", x.again(0), Check.STATE);
        check.due("nothing was kept in 1", x.again(1), Check.STATE);
    }

    private static void write() {
        check.sentence("2: n bytes (1 to 8)", TextEdgesTest::oneToEightBytes);
        check.sentence("2: of v, the lowest n", TextEdgesTest::theLowest);
        check.sentence("2: the highest of these first", TextEdgesTest::theHighestFirst);
        check.sentence("2: bytes: each of 256", TextEdgesTest::eachByte);
        check.sentence("2: come behind THE TEXT", TextEdgesTest::comeBehind);
        check.sentence("2: how long it is", TextEdgesTest::howLongItIs);
        check.sentence("2: OUTSIDE", TextEdgesTest::writeOutside);
        check.sentence("2: FULL: it would be longer than 40", TextEdgesTest::full);
        check.sentence("2: FULL (nothing comes)", TextEdgesTest::nothingComes);
        check.sentence("2: of several the first: OUTSIDE, FULL", TextEdgesTest::outsideAheadOfFull);
    }

    private static void oneToEightBytes() {
        for (int n = 1; n <= 8; n++) {
            BesideBook x = new BesideBook();
            check.due("write(" + n + ", 0)", x.write(n, 0), n);
            check.due("bytes", x.count(0), n);
        }
    }

    private static void theLowest() {
        String text = "L0210R15";
        for (int n = 1; n <= 8; n++) {
            for (long above : new long[] {0L, -1L, 0x5858585858585858L, Long.MIN_VALUE}) {
                long v = Check.bytes(text.substring(0, n)) | (n == 8 ? 0 : above << (8 * (n % 8)));
                BesideBook x = new BesideBook();
                x.write(n, v);
                Check.write(x, text.substring(n));
                check.due("library of write(" + n + ", " + v + ") and the rest", x.library(), 21);
                Check.shelfIs(check, x, "10");
                check.due("wish", x.reader(0, 0), 1);
                check.due("WORTH", x.reader(0, 1), 5);
            }
        }
    }

    private static void theHighestFirst() {
        BesideBook x = new BesideBook();
        x.write(8, 0x4C30323130523037L);
        check.due("L0210R07", x.library(), 21);
        Check.shelfIs(check, x, "10");
        check.due("wish", x.reader(0, 0), 0);
        check.due("WORTH", x.reader(0, 1), 7);
        BesideBook turned = new BesideBook();
        turned.write(8, 0x373052303132304CL);
        check.due("70R0120L", turned.fault(), 0);
    }

    /** A byte is only seen where it can stand: so each one behind L. */
    private static void eachByte() {
        for (int b = 0; b < 256; b++) {
            BesideBook x = new BesideBook();
            x.write(2, 'L' << 8 | b);
            check.due("fault of L and " + b, x.fault(), b == '0' || b == '1' || b == '2' ? 2 : 1);
            x.wipe();
            x.write(1, b);
            check.due("fault of " + b, x.fault(), b == 'L' ? 1 : 0);
        }
    }

    private static void comeBehind() {
        BesideBook x = new BesideBook();
        x.write(2, Check.bytes("L2"));
        x.write(3, Check.bytes("310"));
        x.write(1, '2');
        check.due("library", x.library(), 30);
        Check.shelfIs(check, x, "102");
        x.write(3, Check.bytes("R27"));
        check.due("behind what has been opened", x.library(), 31);
    }

    private static void howLongItIs() {
        BesideBook x = new BesideBook();
        int length = 0;
        for (int n = 1; n <= 8; n++) {
            length += n;
            check.due("write " + n + " more", x.write(n, 0), length);
            check.due("bytes", x.count(0), length);
        }
        for (int i = 37; i <= 40; i++) {
            check.due("one more", x.write(1, 0), i);
        }
    }

    private static void writeOutside() {
        Twins twins = new Twins(check, Twins::busy);
        for (int n : Check.outside(1, 8)) {
            twins.still("write(" + n + ", '2')", x -> x.write(n, '2'), Check.OUTSIDE);
        }
    }

    /** An object that is busy and whose text has so many bytes, the first of them a library. */
    private static BesideBook longText(int bytes) {
        BesideBook x = Twins.busy();
        Check.told(x, LONGEST + "R");
        for (int i = LONGEST.length() + 1; i < bytes; i++) {
            x.write(1, '0');
        }
        return x;
    }

    private static void full() {
        for (int n = 1; n <= 8; n++) {
            int bytes = n;
            Twins over = new Twins(check, () -> longText(41 - bytes));
            over.still("write(" + n + ", '2') behind " + (41 - n), x -> x.write(bytes, '2'), Check.FULL);
            BesideBook just = new BesideBook();
            for (int i = 0; i < 40 - n; i++) {
                just.write(1, 0);
            }
            check.due("40 are not too many: " + n + " behind " + (40 - n), just.write(n, 0), 40);
            check.due("bytes", just.count(0), 40);
            check.due("and one more", just.write(1, 0), Check.FULL);
        }
        Twins twins = new Twins(check, () -> longText(40));
        for (int n = 1; n <= 8; n++) {
            int bytes = n;
            twins.still("write(" + n + ", '2') behind 40", x -> x.write(bytes, '2'), Check.FULL);
        }
    }

    /** Not the bytes either that there would be room for. */
    private static void nothingComes() {
        BesideBook x = longText(36);
        check.due("8 behind 36", x.write(8, -1), Check.FULL);
        check.due("bytes", x.count(0), 36);
        check.due("4 of them have room", x.write(4, 0), 40);
        check.due("bytes", x.count(0), 40);
        check.due("it can be wiped", x.wipe(), 40);
        check.due("and written anew", x.write(8, Check.bytes("L0210R15")), 8);
        check.due("library", x.library(), 21);
    }

    private static void outsideAheadOfFull() {
        Twins twins = new Twins(check, () -> longText(40));
        for (int n : Check.outside(1, 8)) {
            twins.still("write(" + n + ", 0) behind 40", x -> x.write(n, 0), Check.OUTSIDE);
        }
    }

    private static void wipe() {
        check.sentence("3: THE TEXT is empty", TextEdgesTest::textIsEmpty);
        check.sentence("3: how long it was", TextEdgesTest::howLongItWas);
        check.sentence("2, 3: nothing but THE TEXT changes", TextEdgesTest::onlyTheText);
    }

    private static void textIsEmpty() {
        BesideBook x = longText(40);
        x.wipe();
        check.due("bytes", x.count(0), 0);
        check.due("fault: its length", x.fault(), 0);
        check.due("library", x.library(), Check.STATE);
        check.due("BOOKS are as they were", x.count(1), 5);
        check.due("ACTS are as they were", x.count(4), 4);
        for (int i = 1; i <= 5; i++) {
            check.due("40 bytes have room again", x.write(8, 0), 8 * i);
        }
        Check.told(x, "L021");
        check.due("of what was there no byte is left", x.fault(), 4);
        Twins empty = new Twins(check, () -> {
            BesideBook busy = Twins.busy();
            busy.wipe();
            return busy;
        });
        empty.still("wipe() of the empty TEXT", BesideBook::wipe, 0);
    }

    private static void onlyTheText() {
        Twins.areBusy(check, () -> {
            BesideBook x = Twins.busy();
            x.wipe();
            x.write(1, 'L');
            Check.write(x, "2310");
            return x;
        });
    }

    private static void howLongItWas() {
        check.due("nothing yet", new BesideBook().wipe(), 0);
        for (int length = 1; length <= 40; length++) {
            BesideBook x = new BesideBook();
            for (int i = 0; i < length; i++) {
                x.write(1, i);
            }
            check.due("wipe() of " + length, x.wipe(), length);
            check.due("wipe() again", x.wipe(), 0);
        }
    }

    private static void fault() {
        check.sentence("4: L", () -> goesOnBy("", "L", false));
        check.sentence("4: LAW (0 to 2)", () -> goesOnBy("L", "012", false));
        check.sentence("4: n (2 to 8)", TextEdgesTest::twoToEightBooks);
        check.sentence("4: n figures, BOOKS 0 to n - 1", TextEdgesTest::figuresOfBooks);
        check.sentence("4: THE SHELF: each once", () -> eachOnce(""));
        check.sentence("4: then PARTS, none or more", TextEdgesTest::noneOrMoreParts);
        check.sentence("4: THE CATALOGUE: n figures likewise", TextEdgesTest::figuresOfTheCatalogue);
        check.sentence("4: THE CATALOGUE: each once", () -> eachOnce("C"));
        check.sentence("4: THE CATALOGUE: once at most", TextEdgesTest::catalogueOnce);
        check.sentence("4: a READER: 4 at most", TextEdgesTest::fourReaders);
        check.sentence("4: a READER wishes BOOK w", TextEdgesTest::wishes);
        check.sentence("4: WORTH v (0 to 9)", TextEdgesTest::worths);
    }

    /** Which of all bytes can come behind a text, and whether it is a library with one of these. */
    private static void goesOnBy(String begun, String signs, boolean ends) {
        for (int b = 0; b < 256; b++) {
            int want = begun.length();
            if (signs.indexOf(b) >= 0) {
                want = ends ? Check.NONE : begun.length() + 1;
            }
            check.due("fault of " + begun + " and byte " + b, Check.fault(begun + (char) b), want);
        }
    }

    private static void twoToEightBooks() {
        for (int law = 0; law < 3; law++) {
            goesOnBy("L" + law, "2345678", false);
        }
    }

    private static void figuresOfBooks() {
        for (int n = 2; n <= 8; n++) {
            goesOnBy("L0" + n, FIGURES.substring(0, n), false);
        }
    }

    private static String headOf(int n) {
        return "L1" + n;
    }

    private static String shelfOf(int n) {
        return headOf(n) + FIGURES.substring(0, n);
    }

    /** From the last figure down, a byte at a time, at the head (for THE SHELF) or behind a part's sign. */
    private static void eachOnce(String part) {
        for (int n = 2; n <= 8; n++) {
            String begun = (part.isEmpty() ? headOf(n) : shelfOf(n) + part) + (n - 1);
            for (int left = n - 1; left > 0; left--) {
                goesOnBy(begun, FIGURES.substring(0, left), left == 1);
                begun += left - 1;
            }
            check.due("fault of " + begun, Check.fault(begun), Check.NONE);
        }
    }

    private static void noneOrMoreParts() {
        goesOnBy("L0201", "CR", false);
        for (String parts : new String[] {"", "C10", "R15", "R15C10", "C10R15", "R15R15C10R15", "R15R15R15R15C10"}) {
            check.due("fault of L0201" + parts, Check.fault("L0201" + parts), Check.NONE);
        }
    }

    private static void figuresOfTheCatalogue() {
        for (int n = 2; n <= 8; n++) {
            goesOnBy(shelfOf(n) + "C", FIGURES.substring(0, n), false);
        }
        goesOnBy("L0201R15C", "01", false);
    }

    private static void catalogueOnce() {
        goesOnBy("L0201C10", "R", false);
        goesOnBy("L0201C10R15", "R", false);
        goesOnBy("L0201R15C01", "R", false);
        goesOnBy("L0201R15", "CR", false);
    }

    private static void fourReaders() {
        goesOnBy("L0201R15R04", "CR", false);
        goesOnBy("L0201R15R04R19", "CR", false);
        goesOnBy("L0201R15R04R19R00", "C", false);
        goesOnBy("L0201C10R15R04R19", "R", false);
        goesOnBy("L0201C10R15R04R19R00", "", false);
        goesOnBy("L0201R15R04C10R19R00", "", false);
        goesOnBy("L0201R15R04R19R00C10", "", false);
        goesOnBy(LONGEST, "", false);
    }

    private static void wishes() {
        for (int n = 2; n <= 8; n++) {
            goesOnBy(shelfOf(n) + "R", FIGURES.substring(0, n), false);
        }
        goesOnBy("L0201R15R04R19R", "01", false);
        goesOnBy("L0201C10R", "01", false);
    }

    private static void worths() {
        for (String begun : new String[] {"L0201R0", "L0201R1", "L0201R15R04R19R0", "L0801234567R7", "L0201C10R1"}) {
            goesOnBy(begun, FIGURES, true);
        }
    }

    private static void faultAsAWhole() {
        check.sentence("4: the first byte, whatever came behind it", TextEdgesTest::whateverCameBehind);
        check.sentence("4: FAULT (its length set aside)", TextEdgesTest::lengthSetAside);
        check.sentence("4: its length, if it is only not at its end", TextEdgesTest::notAtItsEnd);
        check.sentence("4: FAULT of the empty TEXT", TextEdgesTest::faultOfNothing);
        check.sentence("4: NONE: none", TextEdgesTest::noFault);
        check.sentence("4: fault changes nothing", TextEdgesTest::faultChangesNothing);
    }

    private static void whateverCameBehind() {
        String[] begun = {"X", "L3", "L01", "L09", "L022", "L0200", "L0201X", "L0201C2", "L0201C11", "L0201C10C", "L0201R2",
            "L0201R1X", "L0201R15R15R15R15R", "L18765432100"};
        for (String text : begun) {
            for (String behind : new String[] {"", "L0201", "01", "C10", "R15", "XX", "\0", "\377"}) {
                check.due("fault of " + text + behind, Check.fault(text + behind), text.length() - 1);
            }
        }
    }

    private static void lengthSetAside() {
        check.due("40 bytes, 8 too many", Check.fault(LONGEST + "C7654321"), LONGEST.length());
        check.due("40 bytes, none right", Check.fault("X".repeat(40)), 0);
        check.due("40 bytes, the first right", Check.fault("L".repeat(40)), 1);
        check.due("32 bytes, none too many", Check.fault(LONGEST), Check.NONE);
    }

    private static void notAtItsEnd() {
        String ends = " 11 20 23 26 29 32 ";
        for (int length = 0; length <= LONGEST.length(); length++) {
            int want = ends.contains(" " + length + " ") ? Check.NONE : length;
            check.due("fault of the first " + length, Check.fault(LONGEST.substring(0, length)), want);
        }
    }

    private static void faultOfNothing() {
        BesideBook x = new BesideBook();
        check.due("fault of a new object's TEXT", x.fault(), 0);
        Check.write(x, "L0201");
        x.wipe();
        check.due("fault of what was wiped", x.fault(), 0);
    }

    private static void noFault() {
        String[] fine = {"L0201", "L1210", "L2201", "L0201C01", "L0201C10", "L0201R00", "L0201R19", "L0201C10R15", "L0201R15C10",
            "L0201R15R15R15R15", "L0201R15R15R15R15C10", "L0201C10R15R15R15R15", "L0201R15R15C10R15R15", "L0801234567",
            "L2876543210C01234567", LONGEST};
        for (String text : fine) {
            check.due("fault of " + text, Check.fault(text), Check.NONE);
        }
    }

    private static BesideBook busyWith(String text) {
        BesideBook x = Twins.busy();
        Check.told(x, text);
        return x;
    }

    private static void faultChangesNothing() {
        for (String text : new String[] {"", "X", "L0876543210C01234567R70R61R52R4", "L0876543210C0123456X", LONGEST, "L0201"}) {
            Twins twins = new Twins(check, () -> busyWith(text));
            twins.still("fault() of " + text, BesideBook::fault, Check.fault(text));
        }
    }

    private static void library() {
        check.sentence("5: 10 times BOOKS, and READERS", TextEdgesTest::booksAndReaders);
        check.sentence("5: STATE: a FAULT, and nothing is changed", TextEdgesTest::libraryOfAFault);
        check.sentence("5: all BOOKS stand there", TextEdgesTest::allStandThere);
        check.sentence("5: THE ROW of ACTS is empty", TextEdgesTest::noActs);
        check.sentence("5: what was kept is gone", TextEdgesTest::nothingKept);
        check.sentence("5: GIVEN, THE SEED stay", TextEdgesTest::whatStays);
        check.sentence("5: THE TEXT is THE LIBRARY: LAW", TextEdgesTest::lawIsTold);
        check.sentence("5: else it is THE SHELF as it was told", TextEdgesTest::catalogueOfTheShelf);
        check.sentence("5: READERS, numbered as they are told", TextEdgesTest::numberedAsTold);
        check.sentence("5: no READER and no BOOK of old", TextEdgesTest::nothingOfOld);
    }

    private static void booksAndReaders() {
        String readers = "R00R11R02R13";
        for (int n = 2; n <= 8; n++) {
            for (int many = 0; many <= 4; many++) {
                BesideBook x = new BesideBook();
                Check.write(x, shelfOf(n) + readers.substring(0, 3 * many));
                check.due("library of " + n + " BOOKS, " + many + " READERS", x.library(), 10 * n + many);
                check.due("BOOKS", x.count(1), n);
                check.due("READERS", x.count(2), many);
                check.due("the last BOOK", x.book(n - 1, 0), n - 1);
                check.due("behind the last BOOK", x.book(n, 0), Check.UNKNOWN);
                check.due("behind the last READER", x.reader(many, 0), Check.UNKNOWN);
            }
        }
    }

    private static void libraryOfAFault() {
        for (String text : FAULTY) {
            Twins twins = new Twins(check, () -> busyWith(text));
            twins.still("library() of " + text, BesideBook::library, Check.STATE);
        }
    }

    /** A busy object whose text is a library of as many books. */
    private static BesideBook toldAnew() {
        BesideBook x = busyWith("L2543210R33");
        check.due("library", x.library(), 51);
        return x;
    }

    private static void allStandThere() {
        BesideBook x = toldAnew();
        check.due("BOOKS that stand there", x.count(3), 5);
        Check.shelfIs(check, x, "43210");
        for (int book = 0; book < 5; book++) {
            check.due("who has " + book, x.book(book, 1), Check.NONE);
            check.due("what was asked for", x.book(book, 2), Check.NONE);
            check.due("bring(" + book + ")", x.bring(book), Check.STATE);
        }
        check.due("what READER 0 has", x.reader(0, 2), 0);
        BesideBook same = Check.open("L0201R15");
        same.ask(0, 0);
        same.ask(0, 1);
        check.due("the same one again", same.library(), 21);
        Check.shelfIs(check, same, "01");
    }

    private static void noActs() {
        BesideBook x = toldAnew();
        check.due("ACTS in the row", x.count(4), 0);
        check.due("undo()", x.undo(), Check.STATE);
        Check.shelfIs(check, x, "43210");
    }

    private static void nothingKept() {
        BesideBook x = toldAnew();
        check.due("again(0)", x.again(0), Check.STATE);
        check.due("again(1)", x.again(1), Check.STATE);
        Check.shelfIs(check, x, "43210");
        check.due("keep(1)", x.keep(1), 5);
        check.due("again(0) still", x.again(0), Check.STATE);
        check.due("again(1)", x.again(1), 5);
    }

    private static void whatStays() {
        BesideBook x = toldAnew();
        check.due("GIVEN", x.count(5), 2);
        check.due("bytes of THE TEXT", x.count(0), 11);
        check.due("THE SEED", x.seed(0), 77);
        x.law(1);
        // By law 1 0 2 and 1 3 stand side by side: with 4 that makes two rings of five rows each.
        check.due("rows that fit what was GIVEN", x.rows(), 10);
        check.due("forget()", x.forget(), 2);
    }

    private static void lawIsTold() {
        for (int law = 0; law < 3; law++) {
            BesideBook x = busyWith("L" + law + "201");
            x.library();
            check.due("LAW", x.count(6), law);
            x.law((law + 1) % 3);
            x.library();
            check.due("LAW, told again", x.count(6), law);
        }
    }

    private static void catalogueOfTheShelf() {
        BesideBook x = toldAnew();
        for (int book = 0; book < 5; book++) {
            check.due("place of " + book + " in THE CATALOGUE", x.book(book, 3), 4 - book);
        }
        x.ask(0, 4);
        x.bring(3);
        Check.shelfIs(check, x, "34210");
        check.due("THE SHELF as it was told", x.book(3, 3), 1);
        check.due("THE SHELF as it was told", x.book(4, 3), 0);
        Check.told(x, "L2543210C01234");
        x.library();
        for (int book = 0; book < 5; book++) {
            check.due("place of " + book + " in THE CATALOGUE that is told", x.book(book, 3), book);
        }
        for (String text : new String[] {"L0540213", "L0524130", "L0530241"}) {
            Check.told(x, text);
            x.library();
            for (int book = 0; book < 5; book++) {
                check.due("place of " + book + " in " + text, x.book(book, 3), text.indexOf('0' + book, 3) - 3);
            }
        }
    }

    private static void numberedAsTold() {
        BesideBook x = Check.open("L040123R31C3210R04R29R18");
        int[] wishes = {3, 0, 2, 1};
        int[] worths = {1, 4, 9, 8};
        for (int reader = 0; reader < 4; reader++) {
            check.due("wish of READER " + reader, x.reader(reader, 0), wishes[reader]);
            check.due("WORTH of READER " + reader, x.reader(reader, 1), worths[reader]);
        }
    }

    private static void nothingOfOld() {
        BesideBook x = busyWith("L0210R15");
        check.due("library", x.library(), 21);
        Check.told(x, "L0210");
        check.due("library", x.library(), 20);
        check.due("READERS", x.count(2), 0);
        check.due("READER 0", x.reader(0, 0), Check.UNKNOWN);
        check.due("BOOK 2", x.book(2, 0), Check.UNKNOWN);
        check.due("bring(4)", x.bring(4), Check.UNKNOWN);
        check.due("READERS that have their wish", x.count(7), 0);
    }
}
