/** Promises 18 to 20: a test for each sentence on books that are never lent, and on the order, that names an edge. */
public final class OrderEdgesTest {
    private static final Check check = new Check("OrderEdgesTest");

    public static void main(String[] args) {
        never();
        order();
        orderAt();
        check.end();
    }

    private static void never() {
        check.sentence("18: n (1 to 4): OUTSIDE", OrderEdgesTest::neverOutside);
        check.sentence("18: row (0 or more): OUTSIDE", OrderEdgesTest::neverBelow0);
        check.sentence("18: row (n figures at most): OUTSIDE", OrderEdgesTest::neverTooManyFigures);
        check.sentence("18: told as n figures, the first one first", OrderEdgesTest::theFirstOneFirst);
        check.sentence("18: told as n figures, the first ones 0", OrderEdgesTest::neverNoughts);
        check.sentence("18: one that does not stand there is left out", OrderEdgesTest::leftOut);
        check.sentence("18: BOOKS that stand there", OrderEdgesTest::thatStandThere);
        check.sentence("18: given in none of 100 rounds", OrderEdgesTest::hundredRounds);
        check.sentence("18: of the last: the first; alone: itself", OrderEdgesTest::neverOfTheLastAndAlone);
        check.sentence("18: nothing stands there", OrderEdgesTest::neverOfAnEmptyShelf);
        check.sentence("18: by each LAW", OrderEdgesTest::neverByEachLaw);
        check.sentence("18: never changes nothing", OrderEdgesTest::neverChangesNothing);
    }

    private static void neverOutside() {
        Twins twins = new Twins(check, Twins::busy);
        for (int n : Check.outside(1, 4)) {
            twins.still("never(" + n + ", 0)", x -> x.never(n, 0), Check.OUTSIDE);
            twins.still("never(" + n + ", 2)", x -> x.never(n, 2), Check.OUTSIDE);
        }
        int[] rows = {3, 93, 993, 9993};
        for (int n = 1; n <= 4; n++) {
            check.due("never(" + n + ", " + rows[n - 1] + ")", Twins.busy().never(n, rows[n - 1]), 12);
        }
    }

    private static void neverBelow0() {
        Twins twins = new Twins(check, Twins::busy);
        for (int n = 1; n <= 4; n++) {
            int trips = n;
            for (int row : new int[] {-1, -2, -10, Integer.MIN_VALUE}) {
                twins.still("never(" + n + ", " + row + ")", x -> x.never(trips, row), Check.OUTSIDE);
            }
            check.due("0 is not too small", Twins.busy().never(n, 0), 9);
        }
    }

    private static void neverTooManyFigures() {
        Twins twins = new Twins(check, Twins::busy);
        int[] over = {10, 100, 1000, 10000};
        for (int n = 1; n <= 4; n++) {
            int trips = n;
            int least = over[n - 1];
            for (int row : new int[] {least, least + 2, 10 * least, Integer.MAX_VALUE}) {
                twins.still("never(" + n + ", " + row + ")", x -> x.never(trips, row), Check.OUTSIDE);
            }
            twins.still("the most that " + n + " can have", x -> x.never(trips, least - 1), 13);
        }
    }

    /** By LAW 2 for 0 and 4 by turns all are given in time, for 4 and 0 only 0 and 4 are. */
    private static void theFirstOneFirst() {
        BesideBook x = Check.open("L2540213");
        check.due("0, then 4", x.never(2, 4), 0);
        check.due("4, then 0", x.never(2, 40), 14);
        check.due("0, 9, 9, then 4", x.never(4, 994), 0);
        check.due("4, 9, 9, then 0", x.never(4, 4990), 14);
    }

    private static void neverNoughts() {
        BesideBook x = Check.open("L2540213");
        check.due("4", x.never(1, 4), 16);
        check.due("0, then 4", x.never(2, 4), 0);
        BesideBook two = new BesideBook();
        check.due("0 alone gives 1", two.never(1, 0), 1);
        check.due("0 four times gives 1", two.never(4, 0), 1);
        check.due("0, 0, 0, then 1", two.never(4, 1), 0);
    }

    private static void leftOut() {
        BesideBook x = Twins.busy();
        for (int figure : new int[] {1, 4, 5, 8, 9}) {
            check.due("never(1, " + figure + ")", x.never(1, figure), 13);
            check.due("ahead of 0", x.never(2, 10 * figure), 9);
            check.due("behind 0", x.never(2, figure), 9);
        }
        check.due("all four", x.never(4, 1459), 13);
        check.due("three of four", x.never(4, 1409), 9);
    }

    private static void thatStandThere() {
        check.due("1 and 4 are away, none is asked for", Twins.busy().never(1, 9), 13);
        BesideBook x = Check.open("L0801234567R00");
        check.due("all 8", x.never(1, 9), 255);
        x.ask(0, 6);
        check.due("all but 7", x.never(1, 9), 127);
        x.bring(7);
        check.due("all 8 again", x.never(1, 9), 255);
    }

    /** By no shelf, law and figures is a book given for the first time behind the 22nd round. */
    private static void hundredRounds() {
        check.due("7 is first given in the 22nd round", Check.open("L0801234567").never(2, 70), 0);
        check.due("7 is given in none, by LAW 1", Check.open("L1801234567").never(2, 70), 252);
    }

    private static BesideBook alone() {
        BesideBook x = Check.open("L0201R05");
        x.ask(0, 0);
        return x;
    }

    private static void neverOfTheLastAndAlone() {
        check.due("by LAW 2 the last is given the first for ever", Check.open("L2540213").never(1, 3), 15);
        check.due("alone: itself", alone().never(1, 0), 0);
        check.due("alone and not asked for", alone().never(1, 1), 1);
    }

    private static void neverOfAnEmptyShelf() {
        BesideBook x = alone();
        x.ask(0, 0);
        for (int n = 1; n <= 4; n++) {
            check.due("never(" + n + ", 0)", x.never(n, 0), 0);
            check.due("never(" + n + ", 9)", x.never(n, 9), 0);
        }
    }

    private static void neverByEachLaw() {
        int[] due = {16, 30, 16};
        int[] dueForTwo = {21, 29, 21};
        for (int law = 0; law < 3; law++) {
            BesideBook x = Check.open("L" + law + "540213");
            check.due("never(1, 4) by LAW " + law, x.never(1, 4), due[law]);
            check.due("never(1, 2) by LAW " + law, x.never(1, 2), dueForTwo[law]);
        }
    }

    private static void neverChangesNothing() {
        Twins twins = new Twins(check, Twins::busy);
        twins.still("never(1, 0)", x -> x.never(1, 0), 9);
        twins.still("never(4, 3023)", x -> x.never(4, 3023), 0);
    }

    private static void order() {
        check.sentence("19: no READERS", () -> ordered(new BesideBook(), 0));
        check.sentence("19: left of its wish", OrderEdgesTest::leftOfItsWish);
        check.sentence("19: of the first: the last", OrderEdgesTest::ofTheFirst);
        check.sentence("19: if that stands there", OrderEdgesTest::ifThatStandsThere);
        check.sentence("19: no BOOK comes back", OrderEdgesTest::noneComesBack);
        check.sentence("19: alone: itself, which is not its wish", OrderEdgesTest::orderAlone);
        check.sentence("19: nothing stands there", OrderEdgesTest::orderOfAnEmptyShelf);
        check.sentence("19: WORTH of those that are GLAD", OrderEdgesTest::worthOfTheGlad);
        check.sentence("19: the order of all READERS by which it is most", OrderEdgesTest::most);
        check.sentence("19: of like ones the first by the first READER, then the second, ..", OrderEdgesTest::likeOnes);
        check.sentence("19: WORTH 0 and 9", OrderEdgesTest::leastAndMostWorth);
        check.sentence("19: whatever the LAW, and who has what", OrderEdgesTest::byNoLaw);
        check.sentence("19: order changes nothing", OrderEdgesTest::orderChangesNothing);
    }

    private static void ordered(BesideBook x, int worth, int... readers) {
        check.due("order()", x.order(), worth);
        for (int i = 0; i < readers.length; i++) {
            check.due("orderAt(" + i + ")", x.orderAt(i), readers[i]);
        }
        check.due("behind the last", x.orderAt(readers.length), Check.NONE);
    }

    private static void leftOfItsWish() {
        ordered(Check.open("L040123R17"), 7, 0);
        ordered(Check.open("L040123R37"), 7, 0);
        // In the catalogue 2 is left of 1, on the shelf 3 is right of 2.
        ordered(Check.open("L040123C0213R17"), 0, 0);
        ordered(Check.open("L040123C3012R17"), 7, 0);
    }

    private static void ofTheFirst() {
        ordered(Check.open("L040123R07"), 7, 0);
        // The first of the catalogue is 1, its last is 0, and 1 stands right of 0.
        ordered(Check.open("L040123C1320R17"), 7, 0);
        ordered(Check.open("L040123C1302R17"), 0, 0);
    }

    /** Reader 0 asks for 0, which is away, and takes nothing; so reader 2, then 1, are given their wishes. */
    private static void ifThatStandsThere() {
        BesideBook x = Check.open("L040123R15R29R33");
        check.due("ask(0, 3)", x.ask(0, 3), 0);
        ordered(x, 12, 0, 2, 1);
    }

    private static void noneComesBack() {
        ordered(Check.open("L0201R09R08"), 9, 0, 1);
        ordered(Check.open("L0201R08R09"), 9, 1, 0);
        // One that is not glad takes a book too: 2, and only then 1 stands right of 0.
        ordered(Check.open("L040213C0123R18R12"), 8, 1, 0);
    }

    private static void orderAlone() {
        BesideBook x = Check.open("L0201R05R13");
        x.ask(0, 0);
        // Reader 1 asks for 0, and is given 0, which is not its wish; reader 0 asks for 1, which is away.
        ordered(x, 0, 0, 1);
        // The first takes 1, and 0 is alone then: both ask for the other book's left one.
        ordered(Check.open("L0201R13R05"), 5, 1, 0);
    }

    private static void orderOfAnEmptyShelf() {
        BesideBook x = Check.open("L0201R05R13");
        x.ask(0, 0);
        x.ask(0, 0);
        ordered(x, 0, 0, 1);
    }

    private static void worthOfTheGlad() {
        ordered(Check.open("L040123R11R32"), 3, 0, 1);
        ordered(Check.open("L040213C0123R14R08R39"), 8, 0, 1, 2);
    }

    private static void most() {
        ordered(Check.open("L0801234567R11R22R33R44"), 10, 3, 2, 1, 0);
        ordered(Check.open("L0801234567R44R33R22R11"), 10, 0, 1, 2, 3);
        ordered(Check.open("L0801234567R22R44R11R33"), 10, 1, 3, 0, 2);
    }

    private static void likeOnes() {
        ordered(Check.open("L0801234567R13R33R53R73"), 12, 0, 1, 2, 3);
        ordered(Check.open("L0801234567R25R15R55R65"), 20, 0, 1, 3, 2);
        ordered(Check.open("L0801234567R15R25R55R65"), 20, 1, 0, 3, 2);
        ordered(Check.open("L040123R11R11R11R11"), 1, 0, 1, 2, 3);
    }

    private static void leastAndMostWorth() {
        ordered(Check.open("L040123R10R20R30R00"), 0, 0, 1, 2, 3);
        ordered(Check.open("L0801234567R19R39R59R79"), 36, 0, 1, 2, 3);
        ordered(Check.open("L0801234567R20R10R19"), 9, 0, 2, 1);
    }

    private static void byNoLaw() {
        for (int law = 0; law < 3; law++) {
            BesideBook x = Check.open("L" + law + "40123R15R29R33");
            ordered(x, 17, 2, 1, 0);
            x.ask(1, 1);
            check.due("reader 1 has its wish", x.reader(1, 3), 1);
            // 0 1 3: reader 1 asks for 1 and takes 3, reader 2 asks for 2, which is away.
            ordered(x, 5, 0, 1, 2);
        }
    }

    private static void orderChangesNothing() {
        new Twins(check, Twins::busy).still("order()", BesideBook::order, 0);
        new Twins(check, () -> Check.open("L040123R15R29")).still("order()", BesideBook::order, 14);
    }

    private static void orderAt() {
        check.sentence("20: The i-th READER (from 0) of it", OrderEdgesTest::theIth);
        check.sentence("20: NONE: there are not so many: i below 0", () -> noneAt(Integer.MIN_VALUE, -9, -2, -1));
        check.sentence("20: NONE: there are not so many: i too large", OrderEdgesTest::tooLarge);
        check.sentence("20: NONE: no READERS", OrderEdgesTest::noReaders);
        check.sentence("20: orderAt changes nothing", OrderEdgesTest::orderAtChangesNothing);
    }

    private static void theIth() {
        BesideBook x = Check.open("L0801234567R22R44R11R33");
        int[] due = {1, 3, 0, 2};
        for (int i = 3; i >= 0; i--) {
            check.due("orderAt(" + i + ")", x.orderAt(i), due[i]);
        }
        check.due("asked for nothing else ahead", Check.open("L040123R15R29").orderAt(0), 1);
    }

    private static void noneAt(int... places) {
        BesideBook x = Check.open("L0801234567R22R44R11R33");
        for (int i : places) {
            check.due("orderAt(" + i + ") of 4", x.orderAt(i), Check.NONE);
        }
    }

    private static void tooLarge() {
        noneAt(4, 5, 8, 32, 256, Integer.MAX_VALUE);
        for (int many = 1; many < 4; many++) {
            BesideBook x = Check.open("L0201" + "R15".repeat(many));
            check.due("the last of " + many, x.orderAt(many - 1), many - 1);
            check.due("behind the last of " + many, x.orderAt(many), Check.NONE);
        }
    }

    private static void noReaders() {
        BesideBook x = new BesideBook();
        for (int i = -1; i < 5; i++) {
            check.due("orderAt(" + i + ")", x.orderAt(i), Check.NONE);
        }
        BesideBook fewer = Check.open("L0801234567R22R44R11R33");
        check.due("orderAt(0)", fewer.orderAt(0), 1);
        Check.told(fewer, "L0201");
        fewer.library();
        check.due("no READERS any more", fewer.orderAt(0), Check.NONE);
        check.due("order()", fewer.order(), 0);
    }

    private static void orderAtChangesNothing() {
        Twins twins = new Twins(check, Twins::busy);
        twins.still("orderAt(3)", x -> x.orderAt(3), 3);
        twins.still("orderAt(4)", x -> x.orderAt(4), Check.NONE);
    }
}
