/** Promises 14 to 17: a test for each sentence on what to ask for, and how often, that names an edge. */
public final class GoesEdgesTest {
    private static final Check check = new Check("GoesEdgesTest");

    public static void main(String[] args) {
        meant();
        goes();
        goesAt();
        around();
        check.end();
    }

    /** One of eight books is away and two may still go: seven stand there, 7 5 4 3 2 1 0, more than 6. */
    private static BesideBook crowded() {
        BesideBook x = Check.open("L0876543210C01234567R05R63");
        x.ask(0, 7);
        x.keep(1);
        x.given(7, 6);
        x.seed(-5);
        return x;
    }

    /** One of two books stands there, and all laws leave it so. */
    private static BesideBook alone() {
        BesideBook x = Check.open("L0201R05");
        x.ask(0, 0);
        return x;
    }

    private static BesideBook emptyShelf() {
        BesideBook x = alone();
        x.ask(0, 0);
        return x;
    }

    private static void meant() {
        check.sentence("14: For which BOOK to ask now", GoesEdgesTest::meantNow);
        check.sentence("14: of the last: the first", GoesEdgesTest::meantForTheFirst);
        check.sentence("14: alone: itself", () -> check.due("meant(0)", alone().meant(0), 0));
        check.sentence("14: UNKNOWN", GoesEdgesTest::meantUnknown);
        check.sentence("14: STATE: it is away", GoesEdgesTest::meantAway);
        check.sentence("14: meant changes nothing", () -> new Twins(check, Twins::busy).still("meant(3)", x -> x.meant(3), 2));
    }

    private static void meantNow() {
        BesideBook x = Twins.busy();
        check.due("meant(2)", x.meant(2), 0);
        check.due("meant(3)", x.meant(3), 2);
        check.due("it gives it", x.ask(0, 2), 3);
        check.due("then it is another one: meant(0)", x.meant(0), 2);
    }

    private static void meantForTheFirst() {
        check.due("meant(0) of 0 2 3", Twins.busy().meant(0), 3);
        for (int n = 2; n <= 8; n++) {
            BesideBook x = Check.open("L0" + n + "01234567".substring(0, n));
            check.due("meant for the first of " + n, x.meant(0), n - 1);
            check.due("meant for the last of " + n, x.meant(n - 1), n - 2);
        }
    }

    private static void meantUnknown() {
        Twins twins = new Twins(check, Twins::busy);
        for (int book : Check.outside(0, 4)) {
            twins.still("meant(" + book + ")", x -> x.meant(book), Check.UNKNOWN);
        }
    }

    private static void meantAway() {
        Twins twins = new Twins(check, Twins::busy);
        twins.still("meant(1)", x -> x.meant(1), Check.STATE);
        twins.still("meant(4)", x -> x.meant(4), Check.STATE);
        new Twins(check, GoesEdgesTest::emptyShelf).still("nothing stands there", x -> x.meant(0), Check.STATE);
    }

    private static void goes() {
        check.sentence("15: the fewest ROUND TRIPS, the last of which gives it", GoesEdgesTest::fewest);
        check.sentence("15: BARRED: never to be asked for", GoesEdgesTest::barred);
        check.sentence("15: NONE", GoesEdgesTest::noWay);
        check.sentence("15: of the last: the first; alone: itself", GoesEdgesTest::goesOfTheLastAndAlone);
        check.sentence("15: asked where 6 BOOKS at most stand there", GoesEdgesTest::sixAtMost);
        check.sentence("15: UNKNOWN", GoesEdgesTest::goesUnknown);
        check.sentence("15: OUTSIDE: barred (bits of BOOKS)", GoesEdgesTest::goesOutside);
        check.sentence("15: barred: bits of BOOKS that are away", GoesEdgesTest::barredThatIsAway);
        check.sentence("15: STATE: it is away", GoesEdgesTest::goesAway);
        check.sentence("15: STATE: more than 6 stand there", GoesEdgesTest::goesCrowded);
        check.sentence("15: of several the first: UNKNOWN, OUTSIDE, STATE", GoesEdgesTest::goesRefusedTwice);
        check.sentence("15: goes changes nothing", GoesEdgesTest::goesChangesNothing);
    }

    private static void fewest() {
        BesideBook x = Check.open("L0540213");
        int[] left = {4, 2, 0, 1, 3};
        for (int book = 0; book < 5; book++) {
            check.due("goes(" + book + ", 0)", x.goes(book, 0), 1);
            check.due("the one left of it", x.goesAt(book, 0, 0), left[book]);
        }
        check.due("two: goes(3, 2)", x.goes(3, 2), 2);
        check.due("three: goes(0, 16)", x.goes(0, 16), 3);
        check.due("as many as ever: goes(4, 15) of six", Check.open("L06012345").goes(4, 15), 15);
    }

    private static void barred() {
        BesideBook x = Check.open("L0540213");
        check.due("all others are barred", x.goes(0, 15), 1);
        check.due("the one left of it is barred", x.goes(0, 16), 3);
        for (int i = 0; i < 3; i++) {
            check.holds("it is never asked for", x.goesAt(0, 16, i) != 4);
        }
        check.due("itself is barred", x.goes(0, 1), 1);
        x.law(1);
        check.due("by LAW 1 it stays beside the barred one", x.goes(0, 16), Check.NONE);
        x.law(2);
        check.due("by LAW 2", x.goes(0, 16), 3);
    }

    private static void noWay() {
        for (int law = 0; law < 3; law++) {
            BesideBook x = Check.open("L" + law + "540213");
            for (int book = 0; book < 5; book++) {
                check.due("all are barred: goes(" + book + ", 31)", x.goes(book, 31), Check.NONE);
                check.due("none is given for itself", x.goes(book, 31 - (1 << book)), Check.NONE);
            }
        }
    }

    private static void goesOfTheLastAndAlone() {
        BesideBook x = Check.open("L0540213");
        check.due("the first, by the last alone", x.goes(4, 23), 1);
        check.due("which is asked for", x.goesAt(4, 23, 0), 3);
        check.due("alone: itself", alone().goes(0, 0), 1);
        check.due("alone: itself, the other being barred", alone().goes(0, 2), 1);
        check.due("alone and barred", alone().goes(0, 1), Check.NONE);
    }

    private static void sixAtMost() {
        for (int n = 2; n <= 8; n++) {
            BesideBook x = Check.open("L0" + n + "01234567".substring(0, n));
            check.due("goes(1, 0) of " + n, x.goes(1, 0), n <= 6 ? 1 : Check.STATE);
            check.due("goesAt(1, 0, 0) of " + n, x.goesAt(1, 0, 0), n <= 6 ? 0 : Check.STATE);
        }
        BesideBook x = crowded();
        check.due("7 of 8 stand there", x.goes(0, 0), Check.STATE);
        x.ask(0, 7);
        check.due("6 of 8 stand there", x.goes(0, 0), 1);
        check.due("the one left of it", x.goesAt(0, 0, 0), 1);
        x.bring(6);
        check.due("7 of 8 again", x.goes(0, 0), Check.STATE);
    }

    private static void goesUnknown() {
        Twins twins = new Twins(check, Twins::busy);
        for (int book : Check.outside(0, 4)) {
            twins.still("goes(" + book + ", 0)", x -> x.goes(book, 0), Check.UNKNOWN);
        }
    }

    private static void goesOutside() {
        Twins twins = new Twins(check, Twins::busy);
        for (int barred : Check.outside(0, 31)) {
            twins.still("goes(0, " + barred + ")", x -> x.goes(0, barred), Check.OUTSIDE);
        }
        for (int n = 2; n <= 6; n++) {
            BesideBook x = Check.open("L0" + n + "01234567".substring(0, n));
            check.due("all bits of " + n, x.goes(0, (1 << n) - 1), Check.NONE);
            check.due("the bit of one that there is not", x.goes(0, 1 << n), Check.OUTSIDE);
        }
    }

    private static void barredThatIsAway() {
        BesideBook x = Twins.busy();
        check.due("1 and 4 are barred", x.goes(2, 18), 1);
        check.due("all but 0 are barred", x.goes(2, 30), 1);
        check.due("none but 1 and 4 may be asked for", x.goes(2, 13), Check.NONE);
        BesideBook six = crowded();
        six.ask(0, 7);
        check.due("all bits of 8 but the one left of it", six.goes(0, 253), 1);
        check.due("all bits of 8", six.goes(0, 255), Check.NONE);
        check.due("more than these", six.goes(0, 256), Check.OUTSIDE);
    }

    private static void goesAway() {
        Twins twins = new Twins(check, Twins::busy);
        twins.still("goes(1, 0)", x -> x.goes(1, 0), Check.STATE);
        twins.still("goes(4, 31)", x -> x.goes(4, 31), Check.STATE);
        new Twins(check, GoesEdgesTest::emptyShelf).still("nothing stands there", x -> x.goes(0, 0), Check.STATE);
    }

    private static void goesCrowded() {
        Twins twins = new Twins(check, GoesEdgesTest::crowded);
        twins.still("7 stand there", x -> x.goes(0, 0), Check.STATE);
        twins.still("7 stand there, and all are barred", x -> x.goes(0, 255), Check.STATE);
        Twins eight = new Twins(check, () -> Check.open("L0876543210C01234567R05R63"));
        eight.still("8 stand there", x -> x.goes(0, 0), Check.STATE);
    }

    private static void goesRefusedTwice() {
        Twins away = new Twins(check, Twins::busy);
        away.still("UNKNOWN, barred too: goes(5, 32)", x -> x.goes(5, 32), Check.UNKNOWN);
        away.still("UNKNOWN, barred too: goes(-1, -1)", x -> x.goes(-1, -1), Check.UNKNOWN);
        away.still("barred, away too: goes(4, 32)", x -> x.goes(4, 32), Check.OUTSIDE);
        away.still("barred, away too: goes(1, -1)", x -> x.goes(1, -1), Check.OUTSIDE);
        Twins crowd = new Twins(check, GoesEdgesTest::crowded);
        crowd.still("UNKNOWN, too many too: goes(8, 0)", x -> x.goes(8, 0), Check.UNKNOWN);
        crowd.still("barred, too many too: goes(0, 256)", x -> x.goes(0, 256), Check.OUTSIDE);
    }

    private static void goesChangesNothing() {
        Twins twins = new Twins(check, Twins::busy);
        twins.still("goes(2, 0)", x -> x.goes(2, 0), 1);
        twins.still("goes(2, 1)", x -> x.goes(2, 1), Check.NONE);
    }

    private static void goesAt() {
        check.sentence("16: THE FIRST: by what is asked for in the first one", GoesEdgesTest::firstByTheFirst);
        check.sentence("16: THE FIRST: then the second", GoesEdgesTest::firstByTheSecond);
        check.sentence("16: THE FIRST: then the second, ..", GoesEdgesTest::firstByTheThird);
        check.sentence("16: the i-th (from 0)", GoesEdgesTest::longWay);
        check.sentence("16: NONE: there is none such: i below 0", () -> noneAt(Integer.MIN_VALUE, -9, -2, -1));
        check.sentence("16: NONE: there is none such: i behind the last", () -> noneAt(3, 4, 15, 32, 720, Integer.MAX_VALUE));
        check.sentence("16: NONE: there is none such: no way", GoesEdgesTest::noneOfNoWay);
        check.sentence("16: UNKNOWN", GoesEdgesTest::goesAtUnknown);
        check.sentence("16: OUTSIDE", GoesEdgesTest::goesAtOutside);
        check.sentence("16: STATE", GoesEdgesTest::goesAtState);
        check.sentence("16: of several the first: UNKNOWN, OUTSIDE, STATE", GoesEdgesTest::goesAtRefusedTwice);
        check.sentence("16: goesAt changes nothing", GoesEdgesTest::goesAtChangesNothing);
    }

    private static void way(BesideBook x, int book, int barred, int... asked) {
        String call = "goes(" + book + ", " + barred + ")";
        check.due(call, x.goes(book, barred), asked.length);
        for (int i = 0; i < asked.length; i++) {
            check.due(call + " at " + i, x.goesAt(book, barred, i), asked[i]);
        }
    }

    /** The others are 1 3 3 and 2 1 1. */
    private static void firstByTheFirst() {
        way(Check.open("L2540213"), 0, 16, 0, 2, 2);
    }

    /** The others are 3 1 3 and 3 2 1. */
    private static void firstByTheSecond() {
        way(Check.open("L0540213"), 0, 16, 3, 0, 2);
    }

    /** The others are 0 2 5 0, 2 4 0 2, 2 4 5 0, 5 0 2 4 and 5 0 5 2. */
    private static void firstByTheThird() {
        way(Check.open("L06350241"), 5, 10, 0, 2, 0, 4);
    }

    private static void longWay() {
        way(Check.open("L06012345"), 4, 15, 5, 4, 5, 4, 4, 5, 4, 4, 4, 5, 4, 4, 4, 4, 5);
        way(Twins.busy(), 3, 1, 2);
    }

    private static void noneAt(int... places) {
        BesideBook x = Check.open("L0540213");
        for (int i : places) {
            check.due("goesAt(0, 16, " + i + ") of 3", x.goesAt(0, 16, i), Check.NONE);
        }
        check.due("the first of 3", x.goesAt(0, 16, 0), 3);
        check.due("the last of 3", x.goesAt(0, 16, 2), 2);
    }

    private static void noneOfNoWay() {
        BesideBook x = Check.open("L0540213");
        check.due("a way has been found ahead", x.goesAt(0, 16, 1), 0);
        for (int i = -1; i < 4; i++) {
            check.due("goesAt(0, 31, " + i + ")", x.goesAt(0, 31, i), Check.NONE);
        }
    }

    private static void goesAtUnknown() {
        Twins twins = new Twins(check, Twins::busy);
        for (int book : Check.outside(0, 4)) {
            twins.still("goesAt(" + book + ", 0, 0)", x -> x.goesAt(book, 0, 0), Check.UNKNOWN);
        }
    }

    private static void goesAtOutside() {
        Twins twins = new Twins(check, Twins::busy);
        for (int barred : Check.outside(0, 31)) {
            twins.still("goesAt(0, " + barred + ", 0)", x -> x.goesAt(0, barred, 0), Check.OUTSIDE);
        }
    }

    private static void goesAtState() {
        Twins away = new Twins(check, Twins::busy);
        away.still("goesAt(1, 0, 0)", x -> x.goesAt(1, 0, 0), Check.STATE);
        away.still("goesAt(4, 0, -1), whatever i", x -> x.goesAt(4, 0, -1), Check.STATE);
        away.still("goesAt(4, 31, 9), whatever i", x -> x.goesAt(4, 31, 9), Check.STATE);
        Twins crowd = new Twins(check, GoesEdgesTest::crowded);
        crowd.still("7 stand there", x -> x.goesAt(0, 0, 0), Check.STATE);
        crowd.still("7 stand there, whatever i", x -> x.goesAt(0, 255, -1), Check.STATE);
    }

    private static void goesAtRefusedTwice() {
        Twins away = new Twins(check, Twins::busy);
        away.still("UNKNOWN, barred too: goesAt(5, 32, -1)", x -> x.goesAt(5, 32, -1), Check.UNKNOWN);
        away.still("barred, away too: goesAt(4, 32, -1)", x -> x.goesAt(4, 32, -1), Check.OUTSIDE);
        Twins crowd = new Twins(check, GoesEdgesTest::crowded);
        crowd.still("UNKNOWN, too many too: goesAt(8, 0, 0)", x -> x.goesAt(8, 0, 0), Check.UNKNOWN);
        crowd.still("barred, too many too: goesAt(0, 256, 0)", x -> x.goesAt(0, 256, 0), Check.OUTSIDE);
    }

    private static void goesAtChangesNothing() {
        Twins twins = new Twins(check, Twins::busy);
        twins.still("goesAt(2, 0, 0)", x -> x.goesAt(2, 0, 0), 0);
        twins.still("goesAt(2, 0, 1)", x -> x.goesAt(2, 0, 1), Check.NONE);
        twins.still("goesAt(2, 1, 0)", x -> x.goesAt(2, 1, 0), Check.NONE);
    }

    private static void around() {
        check.sentence("17: behind how many ROUND TRIPS (1 to 99)", GoesEdgesTest::howManyAround);
        check.sentence("17: NONE: not so soon", GoesEdgesTest::notSoSoon);
        check.sentence("17: of the last: the first; alone: itself", GoesEdgesTest::aroundTheLastAndAlone);
        check.sentence("17: THE SHELF is first as it is now", GoesEdgesTest::aroundFromNow);
        check.sentence("17: UNKNOWN", GoesEdgesTest::aroundUnknown);
        check.sentence("17: STATE: it is away", GoesEdgesTest::aroundAway);
        check.sentence("17: around changes nothing", GoesEdgesTest::aroundChangesNothing);
    }

    /** By LAW 0 all that stand right of the one that is asked for take turns. */
    private static void howManyAround() {
        BesideBook x = Check.open("L0801234567");
        for (int book = 0; book < 7; book++) {
            check.due("around(" + book + ") by LAW 0", x.around(book), 7 - book);
        }
        x.law(1);
        for (int book = 0; book < 7; book++) {
            check.due("around(" + book + ") by LAW 1", x.around(book), 1);
        }
    }

    private static void notSoSoon() {
        BesideBook x = Check.open("L0801234567");
        check.due("around(7) by LAW 0: 0 goes behind it for good", x.around(7), Check.NONE);
        x.law(1);
        check.due("around(7) by LAW 1: 0 goes behind it for good", x.around(7), Check.NONE);
        x.law(2);
        for (int book = 0; book < 7; book++) {
            check.due("around(" + book + ") by LAW 2: it goes to the end for good", x.around(book), Check.NONE);
        }
    }

    private static void aroundTheLastAndAlone() {
        check.due("around(7) by LAW 2: the first is put to the front", Check.open("L2801234567").around(7), 1);
        for (int law = 0; law < 3; law++) {
            BesideBook x = alone();
            x.law(law);
            check.due("alone, by LAW " + law, x.around(0), 1);
        }
    }

    private static void aroundFromNow() {
        BesideBook x = Check.open("L0540213R00");
        check.due("of 4 0 2 1 3", x.around(0), 3);
        x.ask(0, 4);
        x.bring(0);
        check.due("of 4 2 1 3 0", x.around(0), Check.NONE);
        check.due("of 4 2 1 3 0", x.around(4), 4);
        x.ask(0, 4);
        check.due("of 4 1 3 0", x.around(4), 3);
    }

    private static void aroundUnknown() {
        Twins twins = new Twins(check, Twins::busy);
        for (int book : Check.outside(0, 4)) {
            twins.still("around(" + book + ")", x -> x.around(book), Check.UNKNOWN);
        }
    }

    private static void aroundAway() {
        Twins twins = new Twins(check, Twins::busy);
        twins.still("around(1)", x -> x.around(1), Check.STATE);
        twins.still("around(4)", x -> x.around(4), Check.STATE);
        new Twins(check, GoesEdgesTest::emptyShelf).still("nothing stands there", x -> x.around(0), Check.STATE);
    }

    private static void aroundChangesNothing() {
        Twins twins = new Twins(check, Twins::busy);
        twins.still("around(0)", x -> x.around(0), 1);
        twins.still("around(3)", x -> x.around(3), Check.NONE);
    }
}
