/** Promises 29 to 31: a test for each sentence on slots and counts that names an edge. */
public final class SlotsEdgesTest {
    private static final Check check = new Check("SlotsEdgesTest");

    public static void main(String[] args) {
        keep();
        again();
        count();
        check.end();
    }

    private static BesideBook emptyShelf() {
        BesideBook x = Check.open("L0201R05R13");
        x.ask(0, 0);
        x.ask(1, 0);
        return x;
    }

    private static void keep() {
        check.sentence("29: how many BOOKS stand there", SlotsEdgesTest::howManyAreKept);
        check.sentence("29: They are kept over what was kept", SlotsEdgesTest::keptOver);
        check.sentence("29: SLOTS 0 to 1: each for itself", SlotsEdgesTest::eachForItself);
        check.sentence("29: UNKNOWN", SlotsEdgesTest::keepUnknown);
        check.sentence("29: keep is no ACT, and ends none", SlotsEdgesTest::keepIsNoAct);
    }

    private static void howManyAreKept() {
        for (int n = 2; n <= 8; n++) {
            BesideBook x = Check.open("L0" + n + "01234567".substring(0, n) + "R00");
            for (int standing = n; standing > 0; standing--) {
                check.due("keep(0) of " + standing, x.keep(0), standing);
                check.due("keep(1) of " + standing, x.keep(1), standing);
                x.ask(0, x.at(0));
            }
            check.due("nothing stands there", x.keep(0), 0);
            check.due("nothing stands there", x.keep(1), 0);
        }
    }

    private static void keptOver() {
        for (int slot = 0; slot < 2; slot++) {
            BesideBook x = Twins.busy();
            check.due("keep(" + slot + ")", x.keep(slot), 3);
            String kept = Twins.desk(x);
            x.bring(4);
            check.due("again(" + slot + ")", x.again(slot), 3);
            check.alike("the newer one", Twins.desk(x), kept);
        }
    }

    private static void eachForItself() {
        BesideBook x = Twins.busy();
        check.due("again(0)", x.again(0), 3);
        Check.shelfIs(check, x, "013");
        check.due("again(1)", x.again(1), 4);
        Check.shelfIs(check, x, "0213");
        check.due("again(0)", x.again(0), 3);
        Check.shelfIs(check, x, "013");
        x.keep(1);
        check.due("again(1)", x.again(1), 3);
        Check.shelfIs(check, x, "013");
    }

    private static void keepUnknown() {
        Twins twins = new Twins(check, Twins::busy);
        for (int slot : Check.outside(0, 1)) {
            twins.still("keep(" + slot + ")", x -> x.keep(slot), Check.UNKNOWN);
        }
        Twins nothing = new Twins(check, SlotsEdgesTest::emptyShelf);
        for (int slot : Check.outside(0, 1)) {
            nothing.still("keep(" + slot + ")", x -> x.keep(slot), Check.UNKNOWN);
        }
    }

    private static void keepIsNoAct() {
        Twins twins = new Twins(check, () -> {
            BesideBook x = Twins.busy();
            x.keep(1);
            return x;
        });
        twins.still("keep(1) again", x -> x.keep(1), 3);
        BesideBook x = Check.open("L040123R15R29");
        x.ask(0, 0);
        x.keep(0);
        check.due("ACTS", x.count(4), 1);
        x.keep(1);
        check.due("undo()", x.undo(), 0);
        Check.shelfIs(check, x, "0123");
        Twins.areBusy(check, Twins::busy);
    }

    private static void again() {
        check.sentence("30: They are as they were kept", SlotsEdgesTest::asTheyWereKept);
        check.sentence("30: how many BOOKS stand there: none", SlotsEdgesTest::nothingStoodThere);
        check.sentence("30: THE ROW of ACTS is empty when one goes on", SlotsEdgesTest::actsAreEmpty);
        check.sentence("30: again and again, whatever came between", SlotsEdgesTest::againAndAgain);
        check.sentence("30: what SLOTS do not keep", SlotsEdgesTest::whatIsNotKept);
        check.sentence("30: UNKNOWN", SlotsEdgesTest::againUnknown);
        check.sentence("30: STATE: none were kept", SlotsEdgesTest::noneWereKept);
        check.sentence("30: STATE: what was kept is gone by library", SlotsEdgesTest::goneByLibrary);
    }

    private static void asTheyWereKept() {
        BesideBook x = Twins.busy();
        x.bring(4);
        x.bring(1);
        check.due("again(0)", x.again(0), 3);
        int[][] due = {{0, Check.NONE, Check.NONE}, {1, Check.NONE, Check.NONE}, {Check.NONE, 0, 0}, {2, Check.NONE, Check.NONE}, {Check.NONE, 1, 3}};
        for (int book = 0; book < 5; book++) {
            for (int what = 0; what < 3; what++) {
                check.due("book(" + book + ", " + what + ")", x.book(book, what), due[book][what]);
            }
        }
        check.due("READERS that have their wish", x.count(7), 1);
        check.due("2 goes right of 0 by LAW 1, as was asked for", x.bring(2), 1);
    }

    private static void nothingStoodThere() {
        BesideBook x = emptyShelf();
        x.keep(0);
        x.bring(0);
        x.bring(1);
        check.due("again(0)", x.again(0), 0);
        check.due("at(0)", x.at(0), Check.NONE);
        check.due("who has 0", x.book(0, 1), 1);
        check.due("who has 1", x.book(1, 1), 0);
        check.due("itself was asked for", x.book(0, 2), 0);
        BesideBook full = Check.open("L0801234567R00");
        full.keep(1);
        full.ask(0, 0);
        check.due("all 8 stood there", full.again(1), 8);
    }

    private static void actsAreEmpty() {
        for (int slot = 0; slot < 2; slot++) {
            BesideBook x = Twins.busy();
            x.again(slot);
            check.due("ACTS", x.count(4), 0);
            check.due("undo()", x.undo(), Check.STATE);
            x.ask(0, 0);
            check.due("ACTS", x.count(4), 1);
            check.due("undo()", x.undo(), 0);
            check.due("undo()", x.undo(), Check.STATE);
        }
    }

    private static void againAndAgain() {
        BesideBook x = Twins.busy();
        x.again(1);
        String kept = Twins.desk(x);
        for (int i = 0; i < 4; i++) {
            x.ask(i, x.at(i));
            x.bring(4);
            check.due("again(1)", x.again(1), 4);
            check.alike("as it was kept", Twins.desk(x), kept);
        }
    }

    private static void whatIsNotKept() {
        BesideBook x = Twins.busy();
        x.law(2);
        x.given(4, 0);
        x.seed(78);
        Check.told(x, "L0201R0");
        x.again(0);
        check.due("the LAW", x.count(6), 2);
        check.due("GIVEN", x.count(5), 3);
        check.due("bytes of THE TEXT", x.count(0), 7);
        check.due("THE SEED", x.seed(0), 78);
    }

    private static void againUnknown() {
        Twins twins = new Twins(check, Twins::busy);
        for (int slot : Check.outside(0, 1)) {
            twins.still("again(" + slot + ")", x -> x.again(slot), Check.UNKNOWN);
        }
        Twins none = new Twins(check, SlotsEdgesTest::emptyShelf);
        for (int slot : Check.outside(0, 1)) {
            none.still("again(" + slot + "), and none were kept", x -> x.again(slot), Check.UNKNOWN);
        }
    }

    private static void noneWereKept() {
        for (int slot = 0; slot < 2; slot++) {
            int empty = slot;
            new Twins(check, BesideBook::new).still("again(" + slot + ") of a new object", x -> x.again(empty), Check.STATE);
            new Twins(check, SlotsEdgesTest::emptyShelf).still("again(" + slot + ")", x -> x.again(empty), Check.STATE);
            new Twins(check, () -> {
                BesideBook x = emptyShelf();
                x.keep(1 - empty);
                x.bring(1);
                return x;
            }).still("again(" + slot + "), the other one being kept", x -> x.again(empty), Check.STATE);
        }
    }

    private static void goneByLibrary() {
        for (int slot = 0; slot < 2; slot++) {
            int gone = slot;
            new Twins(check, () -> {
                BesideBook x = Twins.busy();
                x.write(1, '2');
                x.library();
                return x;
            }).still("again(" + slot + ")", x -> x.again(gone), Check.STATE);
        }
    }

    private static void count() {
        check.sentence("31: 0 bytes of THE TEXT: 0 and 40", SlotsEdgesTest::bytes);
        check.sentence("31: 1 BOOKS: 2 and 8", SlotsEdgesTest::books);
        check.sentence("31: 2 READERS: 0 and 4", SlotsEdgesTest::readers);
        check.sentence("31: 3 BOOKS that stand there: 0 and 8", SlotsEdgesTest::standing);
        check.sentence("31: 4 ACTS in the row: 0 and 16", SlotsEdgesTest::acts);
        check.sentence("31: 5 GIVEN: 0 and 6", SlotsEdgesTest::given);
        check.sentence("31: 6 the LAW: 0 and 2", SlotsEdgesTest::law);
        check.sentence("31: 7 READERS that have their wish (bits): none and all", SlotsEdgesTest::wishes);
        check.sentence("31: each what tells another thing", SlotsEdgesTest::eachWhat);
        check.sentence("31: OUTSIDE", SlotsEdgesTest::countOutside);
    }

    private static void bytes() {
        BesideBook x = new BesideBook();
        check.due("none", x.count(0), 0);
        for (int i = 1; i <= 5; i++) {
            x.write(8, 0);
            check.due("8 more", x.count(0), 8 * i);
        }
        x.write(1, 0);
        check.due("no more than 40", x.count(0), 40);
    }

    private static void books() {
        for (int n = 2; n <= 8; n++) {
            BesideBook x = Check.open("L0" + n + "01234567".substring(0, n) + "R00");
            x.ask(0, 0);
            check.due("BOOKS, one of them away", x.count(1), n);
        }
    }

    private static void readers() {
        for (int many = 0; many <= 4; many++) {
            check.due("READERS", Check.open("L0201" + "R15".repeat(many)).count(2), many);
        }
    }

    private static void standing() {
        BesideBook x = Check.open("L0801234567R00");
        for (int left = 8; left > 0; left--) {
            check.due("stand there", x.count(3), left);
            x.ask(0, x.at(0));
        }
        check.due("nothing stands there", x.count(3), 0);
        x.bring(3);
        check.due("one is back", x.count(3), 1);
    }

    private static void acts() {
        BesideBook x = Check.open("L0201R00");
        for (int i = 0; i <= 17; i++) {
            check.due("ACTS behind " + i, x.count(4), Math.min(i, 16));
            if (i % 2 == 0) {
                x.ask(0, 0);
            } else {
                x.bring(1);
            }
        }
        x.undo();
        check.due("one is undone", x.count(4), 15);
    }

    private static void given() {
        BesideBook x = new BesideBook();
        for (int i = 0; i <= 7; i++) {
            check.due("GIVEN", x.count(5), Math.min(i, 6));
            x.given(0, 1);
        }
        x.forget();
        check.due("forgotten", x.count(5), 0);
    }

    private static void law() {
        for (int law = 0; law < 3; law++) {
            BesideBook x = Check.open("L" + law + "201");
            check.due("the LAW", x.count(6), law);
            x.law(2 - law);
            check.due("another one", x.count(6), 2 - law);
        }
    }

    private static void wishes() {
        BesideBook x = Check.open("L0801234567R10R30R50R70");
        int bits = 0;
        check.due("none", x.count(7), 0);
        for (int reader = 3; reader >= 0; reader--) {
            check.due("ask", x.ask(reader, 2 * reader), 2 * reader + 1);
            bits |= 1 << reader;
            check.due("READERS that have their wish", x.count(7), bits);
        }
        check.due("all", bits, 15);
        x.bring(1);
        check.due("all but the first", x.count(7), 14);
        check.due("the last takes the first one's wish too", x.ask(3, 6), 1);
        check.due("that is no wish that it has", x.count(7), 14);
        check.due("two with one wish, one has it", twoWithOneWish(), 2);
    }

    private static int twoWithOneWish() {
        BesideBook x = Check.open("L0201R15R15");
        x.ask(1, 0);
        return x.count(7);
    }

    private static void eachWhat() {
        BesideBook x = Twins.busy();
        x.given(0, 1);
        x.given(0, 1);
        x.given(0, 1);
        x.undo();
        x.undo();
        int[] due = {5, 5, 4, 3, 2, 5, 1, 1};
        for (int what = 0; what < 8; what++) {
            check.due("count(" + what + ")", x.count(what), due[what]);
        }
        x.write(2, 0);
        check.due("count(0)", x.count(0), 7);
    }

    private static void countOutside() {
        Twins twins = new Twins(check, Twins::busy);
        for (int what : Check.outside(0, 7)) {
            twins.still("count(" + what + ")", x -> x.count(what), Check.OUTSIDE);
        }
        for (int what = 0; what < 8; what++) {
            int[] due = {5, 5, 4, 3, 4, 2, 1, 0};
            int wanted = what;
            twins.still("count(" + what + ")", x -> x.count(wanted), due[what]);
        }
    }
}
