/** Promises 10 to 13: a test for each sentence on acts and told evenings that names an edge. */
public final class ActsEdgesTest {
    private static final Check check = new Check("ActsEdgesTest");

    public static void main(String[] args) {
        ask();
        bring();
        undo();
        judge();
        check.end();
    }

    private static void ask() {
        check.sentence("10: given the one that stands right of it", ActsEdgesTest::rightOfIt);
        check.sentence("10: of the last: the first", ActsEdgesTest::ofTheLast);
        check.sentence("10: alone: itself", ActsEdgesTest::alone);
        check.sentence("10: It is away then, the gap is closed", ActsEdgesTest::gapIsClosed);
        check.sentence("10: UNKNOWN: reader", ActsEdgesTest::askOfUnknownReader);
        check.sentence("10: UNKNOWN: book", ActsEdgesTest::askForUnknownBook);
        check.sentence("10: UNKNOWN: no READERS", ActsEdgesTest::askWithoutReaders);
        check.sentence("10: STATE: it is away", ActsEdgesTest::askForWhatIsAway);
        check.sentence("10: STATE: nothing stands there", ActsEdgesTest::askAnEmptyShelf);
        check.sentence("10: of several the first: UNKNOWN, STATE", ActsEdgesTest::askRefusedTwice);
    }

    private static void rightOfIt() {
        for (int place = 0; place < 7; place++) {
            BesideBook x = Check.open("L0876543210R00");
            check.due("ask(0, " + (7 - place) + ")", x.ask(0, 7 - place), 6 - place);
        }
    }

    private static void ofTheLast() {
        for (int n = 2; n <= 8; n++) {
            BesideBook x = Check.open("L0" + n + "01234567".substring(0, n) + "R00");
            check.due("the last of " + n, x.ask(0, n - 1), 0);
            check.due("its place", x.book(0, 0), Check.NONE);
            check.due("the first then", x.at(0), 1);
        }
    }

    private static void alone() {
        BesideBook x = Check.open("L0201R00R00");
        check.due("ask(0, 1)", x.ask(0, 1), 0);
        check.due("alone", x.ask(1, 1), 1);
        check.due("nothing stands there", x.count(3), 0);
        check.due("who has it", x.book(1, 1), 1);
        check.due("itself was asked for", x.book(1, 2), 1);
        check.due("two ACTS", x.count(4), 2);
        check.due("undo()", x.undo(), 1);
        Check.shelfIs(check, x, "1");
    }

    private static void gapIsClosed() {
        BesideBook x = Check.open("L0540213R00");
        String[] shelves = {"4013", "013", "03", "3", ""};
        int[] asked = {0, 3, 0, 3, 3};
        int[] given = {2, 4, 1, 0, 3};
        for (int i = 0; i < 5; i++) {
            check.due("ask(0, " + asked[i] + ")", x.ask(0, asked[i]), given[i]);
            Check.shelfIs(check, x, shelves[i]);
            check.due("stand there", x.count(3), 4 - i);
            check.due("it is away", x.book(given[i], 0), Check.NONE);
        }
    }

    private static void askOfUnknownReader() {
        Twins twins = new Twins(check, Twins::busy);
        for (int reader : Check.outside(0, 3)) {
            twins.still("ask(" + reader + ", 0)", x -> x.ask(reader, 0), Check.UNKNOWN);
        }
        check.due("the last READER", Twins.busy().ask(3, 0), 2);
        check.due("the first READER", Twins.busy().ask(0, 0), 2);
    }

    private static void askForUnknownBook() {
        Twins twins = new Twins(check, Twins::busy);
        for (int book : Check.outside(0, 4)) {
            twins.still("ask(0, " + book + ")", x -> x.ask(0, book), Check.UNKNOWN);
        }
    }

    private static void askWithoutReaders() {
        Twins twins = new Twins(check, BesideBook::new);
        twins.still("ask(0, 0)", x -> x.ask(0, 0), Check.UNKNOWN);
        twins.still("ask(-1, 0)", x -> x.ask(-1, 0), Check.UNKNOWN);
    }

    private static void askForWhatIsAway() {
        Twins twins = new Twins(check, Twins::busy);
        for (int reader = 0; reader < 4; reader++) {
            int asking = reader;
            twins.still("ask(" + reader + ", 1)", x -> x.ask(asking, 1), Check.STATE);
            twins.still("ask(" + reader + ", 4)", x -> x.ask(asking, 4), Check.STATE);
        }
    }

    /** Both of two books are with the one reader, 1 for 0 and 0 for itself. */
    private static BesideBook emptyShelf(int law) {
        BesideBook x = Check.open("L" + law + "201R05");
        x.ask(0, 0);
        x.ask(0, 0);
        return x;
    }

    private static void askAnEmptyShelf() {
        Twins twins = new Twins(check, () -> emptyShelf(0));
        twins.still("ask(0, 0)", x -> x.ask(0, 0), Check.STATE);
        twins.still("ask(0, 1)", x -> x.ask(0, 1), Check.STATE);
    }

    private static void askRefusedTwice() {
        Twins twins = new Twins(check, Twins::busy);
        for (int reader : Check.outside(0, 3)) {
            twins.still("ask(" + reader + ", 4)", x -> x.ask(reader, 4), Check.UNKNOWN);
        }
    }

    private static void bring() {
        check.sentence("11: by LAW 0, at the end (right)", ActsEdgesTest::byLaw0);
        check.sentence("11: by LAW 1 right of the BOOK that was asked for", ActsEdgesTest::byLaw1);
        check.sentence("11: by LAW 1, if that stands there, else at the end", ActsEdgesTest::byLaw1AtTheEnd);
        check.sentence("11: by LAW 1, itself was asked for", ActsEdgesTest::byLaw1BesideItself);
        check.sentence("11: by LAW 2 at the front (left)", ActsEdgesTest::byLaw2);
        check.sentence("11: BROUGHT BACK where nothing stands", ActsEdgesTest::bringToAnEmptyShelf);
        check.sentence("11: by the LAW as it is then", ActsEdgesTest::byTheLawThen);
        check.sentence("11: UNKNOWN", ActsEdgesTest::bringUnknown);
        check.sentence("11: STATE: it stands there", ActsEdgesTest::bringWhatStandsThere);
    }

    /** A shelf 40213 by a law, of which one is asked for: what is given is brought back to a place, and makes a shelf. */
    private static void broughtBack(int law, int asked, int place, String shelf) {
        BesideBook x = Check.open("L" + law + "540213R00");
        int given = x.ask(0, asked);
        check.due("by LAW " + law + " " + given + " for " + asked, x.bring(given), place);
        Check.shelfIs(check, x, shelf);
        check.due("its place", x.book(given, 0), place);
        check.due("who has it", x.book(given, 1), Check.NONE);
        check.due("what was asked for", x.book(given, 2), Check.NONE);
        check.due("ACTS", x.count(4), 2);
    }

    private static void byLaw0() {
        broughtBack(0, 4, 4, "42130");
        broughtBack(0, 0, 4, "40132");
        broughtBack(0, 1, 4, "40213");
        broughtBack(0, 3, 4, "02134");
    }

    private static void byLaw1() {
        broughtBack(1, 4, 1, "40213");
        broughtBack(1, 0, 2, "40213");
        broughtBack(1, 1, 4, "40213");
        broughtBack(1, 3, 4, "02134");
        BesideBook x = Check.open("L1540213R00");
        x.ask(0, 0);
        x.ask(0, 4);
        x.bring(0);
        check.due("0 was away and stands there again", x.bring(2), 2);
        Check.shelfIs(check, x, "40213");
    }

    private static void byLaw1AtTheEnd() {
        BesideBook x = Check.open("L1540213R00");
        check.due("2 for 0", x.ask(0, 0), 2);
        check.due("0 for 4", x.ask(0, 4), 0);
        check.due("0 is away", x.bring(2), 3);
        Check.shelfIs(check, x, "4132");
        BesideBook two = emptyShelf(1);
        two.undo();
        check.due("0 for itself", two.ask(0, 0), 0);
        check.due("1 was given for 0, which is away", two.bring(1), 0);
    }

    private static void byLaw1BesideItself() {
        BesideBook x = emptyShelf(1);
        check.due("1 for 0", x.bring(1), 0);
        check.due("0 for itself: at the end", x.bring(0), 1);
        Check.shelfIs(check, x, "10");
    }

    private static void byLaw2() {
        broughtBack(2, 4, 0, "04213");
        broughtBack(2, 0, 0, "24013");
        broughtBack(2, 1, 0, "34021");
        broughtBack(2, 3, 0, "40213");
    }

    private static void bringToAnEmptyShelf() {
        for (int law = 0; law < 3; law++) {
            for (int book = 0; book < 2; book++) {
                BesideBook x = emptyShelf(law);
                check.due("by LAW " + law + ": bring(" + book + ")", x.bring(book), 0);
                check.due("the only one", x.at(0), book);
                check.due("stand there", x.count(3), 1);
            }
        }
    }

    private static void byTheLawThen() {
        int[] places = {4, 2, 0};
        for (int told = 0; told < 3; told++) {
            for (int law = 0; law < 3; law++) {
                BesideBook x = Check.open("L" + told + "540213R00");
                x.ask(0, 0);
                x.law(law);
                check.due("told LAW " + told + ", then " + law, x.bring(2), places[law]);
            }
        }
    }

    private static void bringUnknown() {
        Twins twins = new Twins(check, Twins::busy);
        for (int book : Check.outside(0, 4)) {
            twins.still("bring(" + book + ")", x -> x.bring(book), Check.UNKNOWN);
        }
        check.due("the last BOOK", Twins.busy().bring(4), 3);
    }

    private static void bringWhatStandsThere() {
        Twins twins = new Twins(check, Twins::busy);
        for (int book : new int[] {0, 2, 3}) {
            twins.still("bring(" + book + ")", x -> x.bring(book), Check.STATE);
        }
        Twins back = new Twins(check, () -> {
            BesideBook x = Twins.busy();
            x.bring(4);
            return x;
        });
        back.still("it has just been brought back", x -> x.bring(4), Check.STATE);
    }

    private static void undo() {
        check.sentence("12: The last ACT is undone: an ask", ActsEdgesTest::undoAnAsk);
        check.sentence("12: The last ACT is undone: one brought back", ActsEdgesTest::undoABring);
        check.sentence("12: how many are left", ActsEdgesTest::howManyAreLeft);
        check.sentence("12: STATE: there is none", ActsEdgesTest::nothingToUndo);
        check.sentence("12: a row (16 at most)", ActsEdgesTest::sixteen);
        check.sentence("12: of more the first one is forgotten", ActsEdgesTest::theFirstIsForgotten);
        check.sentence("12: the row is filled, undone and filled again", ActsEdgesTest::filledAgain);
        check.sentence("12: what is refused is no ACT", ActsEdgesTest::refusedIsNoAct);
        check.sentence("12: THE SHELF, who has what, which was asked for: nothing else", ActsEdgesTest::whatIsNotUndone);
        check.sentence("10 to 12: what is done and undone changes nothing", ActsEdgesTest::doneAndUndone);
    }

    private static void undoAnAsk() {
        for (int book : new int[] {0, 2, 3}) {
            Twins.areBusy(check, () -> {
                BesideBook x = Twins.busy();
                x.ask(0, book);
                check.due("undo() behind ask(0, " + book + ")", x.undo(), 4);
                return x;
            });
        }
        BesideBook alone = emptyShelf(0);
        alone.undo();
        Check.shelfIs(check, alone, "0");
        alone.undo();
        Check.shelfIs(check, alone, "01");
    }

    private static void undoABring() {
        for (int law : new int[] {0, 1, 2}) {
            for (int book : new int[] {1, 4}) {
                Twins.areBusy(check, () -> {
                    BesideBook x = Twins.busy();
                    x.law(law);
                    x.bring(book);
                    check.due("undo() behind bring(" + book + ") by LAW " + law, x.undo(), 4);
                    x.law(1);
                    return x;
                });
            }
        }
    }

    private static void howManyAreLeft() {
        BesideBook x = Twins.busy();
        for (int left = 3; left >= 0; left--) {
            check.due("undo()", x.undo(), left);
            check.due("ACTS in the row", x.count(4), left);
        }
        Check.shelfIs(check, x, "40213");
    }

    private static void nothingToUndo() {
        new Twins(check, BesideBook::new).still("undo() of a new object", BesideBook::undo, Check.STATE);
        new Twins(check, () -> {
            BesideBook x = Twins.busy();
            for (int i = 0; i < 4; i++) {
                x.undo();
            }
            return x;
        }).still("undo(), all being undone", BesideBook::undo, Check.STATE);
        new Twins(check, () -> {
            BesideBook x = Twins.busy();
            x.again(0);
            return x;
        }).still("undo() behind again(0)", BesideBook::undo, Check.STATE);
        new Twins(check, () -> {
            BesideBook x = Twins.busy();
            Check.told(x, "L0201R15");
            x.library();
            return x;
        }).still("undo() behind library()", BesideBook::undo, Check.STATE);
    }

    /** The i-th act: by turns one that asks, another reader for another place, and one that brings back what is away. */
    private static void act(BesideBook x, int i) {
        if (i % 2 == 0) {
            x.ask(i / 2 % 3, x.at(i / 2 % 4));
        } else {
            for (int book = 0; book < 5; book++) {
                if (x.book(book, 0) == Check.NONE) {
                    x.bring(book);
                }
            }
        }
    }

    /** The desk ahead of each of so many acts and behind the last of them. */
    private static String[] desks(BesideBook x, int acts) {
        String[] desks = new String[acts + 1];
        for (int i = 0; i < acts; i++) {
            desks[i] = Twins.desk(x);
            act(x, i);
        }
        desks[acts] = Twins.desk(x);
        return desks;
    }

    private static void sixteen() {
        BesideBook x = Check.open("L1540213R20R00R30");
        for (int i = 0; i < 20; i++) {
            act(x, i);
            check.due("ACTS in the row behind " + (i + 1), x.count(4), Math.min(i + 1, 16));
        }
    }

    private static void theFirstIsForgotten() {
        for (int acts = 15; acts <= 19; acts++) {
            BesideBook x = Check.open("L1540213R20R00R30");
            String[] desks = desks(x, acts);
            int forgotten = Math.max(0, acts - 16);
            for (int left = acts - forgotten - 1; left >= 8; left--) {
                check.due("undo()", x.undo(), left);
            }
            check.alike("8 are left of " + acts, Twins.desk(x), desks[forgotten + 8]);
            for (int left = 7; left >= 0; left--) {
                check.due("undo()", x.undo(), left);
            }
            check.alike("none is left of " + acts, Twins.desk(x), desks[forgotten]);
            check.due("undo() of what is forgotten", x.undo(), Check.STATE);
            check.alike("it is as it was", Twins.desk(x), desks[forgotten]);
        }
    }

    private static void filledAgain() {
        BesideBook x = Check.open("L1540213R20R00R30");
        String[] desks = desks(x, 18);
        for (int left = 15; left >= 10; left--) {
            check.due("undo()", x.undo(), left);
        }
        check.alike("as behind 12", Twins.desk(x), desks[12]);
        for (int i = 12; i < 20; i++) {
            act(x, i);
            check.due("ACTS in the row", x.count(4), Math.min(i - 1, 16));
        }
        for (int left = 15; left >= 0; left--) {
            check.due("undo()", x.undo(), left);
        }
        check.alike("as behind 4", Twins.desk(x), desks[4]);
        check.due("undo()", x.undo(), Check.STATE);
    }

    private static void refusedIsNoAct() {
        BesideBook x = Twins.busy();
        x.ask(4, 0);
        x.ask(0, 5);
        x.ask(0, 4);
        x.bring(5);
        x.bring(0);
        check.due("ACTS in the row", x.count(4), 4);
        check.due("undo()", x.undo(), 3);
        Check.shelfIs(check, x, "0213");
    }

    private static void whatIsNotUndone() {
        BesideBook x = Twins.busy();
        x.law(2);
        x.given(4, 0);
        x.seed(78);
        Check.told(x, "L0201");
        x.keep(0);
        x.undo();
        check.due("the LAW", x.count(6), 2);
        check.due("GIVEN", x.count(5), 3);
        check.due("bytes of THE TEXT", x.count(0), 5);
        check.due("THE SEED", x.seed(0), 78);
        check.due("what was kept", x.again(0), 3);
    }

    private static void doneAndUndone() {
        Twins.areBusy(check, () -> {
            BesideBook x = Twins.busy();
            x.ask(2, 0);
            x.bring(4);
            x.ask(0, 4);
            for (int left = 6; left >= 4; left--) {
                check.due("undo()", x.undo(), left);
            }
            return x;
        });
    }

    private static void judge() {
        check.sentence("13: n ROUND TRIPS (1 to 4): OUTSIDE", ActsEdgesTest::judgeOutside);
        check.sentence("13: row (0 or more): OUTSIDE", ActsEdgesTest::judgeBelow0);
        check.sentence("13: row (2 n figures at most): OUTSIDE", ActsEdgesTest::judgeTooManyFigures);
        check.sentence("13: told as 2 n figures, the first ones 0", ActsEdgesTest::judgeNoughts);
        check.sentence("13: the place (from 0) of the first one that can not be", ActsEdgesTest::placeOfTheFirst);
        check.sentence("13: it does not stand there", ActsEdgesTest::doesNotStandThere);
        check.sentence("13: another one is given", ActsEdgesTest::anotherOneIsGiven);
        check.sentence("13: of the last: the first; alone: itself", ActsEdgesTest::judgeTheLastAndAlone);
        check.sentence("13: NONE: all can, by each LAW", ActsEdgesTest::allCan);
        check.sentence("13: judge changes nothing", ActsEdgesTest::judgeChangesNothing);
    }

    private static void judgeOutside() {
        Twins twins = new Twins(check, Twins::busy);
        for (int n : Check.outside(1, 4)) {
            twins.still("judge(" + n + ", 2)", x -> x.judge(n, 2), Check.OUTSIDE);
            twins.still("judge(" + n + ", 0)", x -> x.judge(n, 0), Check.OUTSIDE);
        }
        int[] rows = {2, 202, 20202, 2020202};
        for (int n = 1; n <= 4; n++) {
            check.due("judge(" + n + ", " + rows[n - 1] + ")", Twins.busy().judge(n, rows[n - 1]), Check.NONE);
        }
    }

    private static void judgeBelow0() {
        Twins twins = new Twins(check, Twins::busy);
        for (int n = 1; n <= 4; n++) {
            int trips = n;
            for (int row : new int[] {-1, -2, -10, Integer.MIN_VALUE}) {
                twins.still("judge(" + n + ", " + row + ")", x -> x.judge(trips, row), Check.OUTSIDE);
            }
            check.due("0 is not too small", Twins.busy().judge(n, 0), 0);
        }
    }

    private static void judgeTooManyFigures() {
        Twins twins = new Twins(check, Twins::busy);
        int[] over = {100, 10000, 1000000, 100000000};
        for (int n = 1; n <= 4; n++) {
            int trips = n;
            int least = over[n - 1];
            for (int row : new int[] {least, least + 2, 10 * least, Integer.MAX_VALUE}) {
                twins.still("judge(" + n + ", " + row + ")", x -> x.judge(trips, row), Check.OUTSIDE);
            }
            twins.still("the most that " + n + " can have", x -> x.judge(trips, least - 1), 0);
        }
    }

    private static void judgeNoughts() {
        BesideBook x = Twins.busy();
        check.due("02", x.judge(1, 2), Check.NONE);
        check.due("0202", x.judge(2, 202), Check.NONE);
        check.due("020202", x.judge(3, 20202), Check.NONE);
        check.due("02020202", x.judge(4, 2020202), Check.NONE);
        check.due("0002: for 0 there is never 0", x.judge(2, 2), 0);
        check.due("00000002", x.judge(4, 2), 0);
    }

    private static void placeOfTheFirst() {
        BesideBook x = Check.open("L0540213");
        check.due("all can", x.judge(4, 40424143), Check.NONE);
        check.due("the first can not", x.judge(4, 41424143), 0);
        check.due("the second can not", x.judge(4, 40414143), 1);
        check.due("the third can not", x.judge(4, 40424043), 2);
        check.due("the fourth can not", x.judge(4, 40424140), 3);
        check.due("none can", x.judge(4, 99999999), 0);
        check.due("the second and the fourth can not", x.judge(4, 40994199), 1);
    }

    private static void doesNotStandThere() {
        BesideBook x = Twins.busy();
        for (int asked : new int[] {1, 4, 5, 8, 9}) {
            for (int given = 0; given < 10; given++) {
                check.due("judge(1, " + asked + given + ")", x.judge(1, 10 * asked + given), 0);
                check.due("judge(2, 02" + asked + given + ")", x.judge(2, 200 + 10 * asked + given), 1);
            }
        }
        BesideBook empty = emptyShelf(0);
        for (int row : new int[] {0, 1, 10, 11}) {
            check.due("nothing stands there", empty.judge(1, row), 0);
        }
    }

    private static void anotherOneIsGiven() {
        BesideBook x = Twins.busy();
        int[] given = {2, 3, 0};
        int[] asked = {0, 2, 3};
        for (int i = 0; i < 3; i++) {
            for (int told = 0; told < 10; told++) {
                int want = told == given[i] ? Check.NONE : 0;
                check.due("judge(1, " + asked[i] + told + ")", x.judge(1, 10 * asked[i] + told), want);
            }
        }
    }

    private static void judgeTheLastAndAlone() {
        check.due("of the last: the first", Check.open("L0540213").judge(1, 34), Check.NONE);
        BesideBook alone = emptyShelf(0);
        alone.bring(1);
        for (int law = 0; law < 3; law++) {
            alone.law(law);
            check.due("alone: itself, by LAW " + law, alone.judge(4, 11111111), Check.NONE);
        }
    }

    /** From 40213 on for 4, 0, 3, 1 there is given by each law another row; one law's is no other's. */
    private static void allCan() {
        int[] rows = {40043013, 40023413, 40043413};
        int[][] due = {{Check.NONE, 1, 2}, {1, Check.NONE, 1}, {2, 1, Check.NONE}};
        for (int law = 0; law < 3; law++) {
            BesideBook x = Check.open("L" + law + "540213");
            for (int i = 0; i < 3; i++) {
                check.due("judge(4, " + rows[i] + ") by LAW " + law, x.judge(4, rows[i]), due[law][i]);
            }
        }
    }

    private static void judgeChangesNothing() {
        Twins twins = new Twins(check, Twins::busy);
        twins.still("judge(3, 23302)", x -> x.judge(3, 23302), 1);
        twins.still("judge(2, 223)", x -> x.judge(2, 223), Check.NONE);
        twins.still("judge(4, 30020223)", x -> x.judge(4, 30020223), Check.NONE);
    }
}
