/** Promises 14 to 20: meant, goes, goesAt, around, never, order, orderAt. */
public final class GoesTest {
    private static final Check check = new Check("GoesTest");

    public static void main(String[] args) {
        meant();
        goes();
        goesByOtherLaws();
        goesFar();
        goesByAllThatMayBeBarred();
        goesWhereSomeAreAway();
        around();
        never();
        order();
        orderOfLikes();
        orderWhereSomeAreAway();
        nothingChanges();
        check.end();
    }

    private static void meant() {
        BesideBook x = Check.open("L0540213R00");
        int[] due = {4, 2, 0, 1, 3};
        for (int book = 0; book < 5; book++) {
            check.due("meant(" + book + ")", x.meant(book), due[book]);
            check.due("it gives it", x.ask(0, x.meant(book)), book);
            int gone = book;
            check.due("it is away then", x.meant(gone), Check.STATE);
            x.undo();
        }
        x.ask(0, 4);
        check.due("away", x.meant(0), Check.STATE);
        check.due("2 stands right of 4 now", x.meant(2), 4);
        BesideBook alone = Check.open("L0201R00");
        alone.ask(0, 0);
        check.due("alone: itself", alone.meant(0), 0);
        check.due("away", alone.meant(1), Check.STATE);
    }

    private static void way(BesideBook x, int book, int barred, int... asked) {
        String call = "goes(" + book + ", " + barred + ")";
        check.due(call, x.goes(book, barred), asked.length == 0 ? Check.NONE : asked.length);
        for (int i = 0; i < asked.length; i++) {
            check.due(call + " at " + i, x.goesAt(book, barred, i), asked[i]);
        }
        for (int i : new int[] {-1, asked.length, asked.length + 1, 1000, Integer.MIN_VALUE, Integer.MAX_VALUE}) {
            check.due(call + " at " + i, x.goesAt(book, barred, i), Check.NONE);
        }
    }

    private static void goes() {
        BesideBook x = Check.open("L0540213");
        way(x, 0, 0, 4);
        way(x, 4, 0, 3);
        way(x, 0, 16, 3, 0, 2);
        way(x, 0, 31);
        way(x, 0, 30);
        way(x, 0, 15, 4);
        way(x, 3, 2, 2, 2);
        way(x, 3, 22, 0, 0, 0);
    }

    private static void goesByOtherLaws() {
        BesideBook x = Check.open("L1540213");
        way(x, 0, 0, 4);
        way(x, 0, 16);
        x.law(2);
        way(x, 0, 0, 4);
        way(x, 0, 16, 0, 2, 2);
    }

    /** The longest ways that there are for six books. */
    private static void goesFar() {
        BesideBook x = Check.open("L06012345");
        way(x, 4, 15, 5, 4, 5, 4, 4, 5, 4, 4, 4, 5, 4, 4, 4, 4, 5);
        x.law(2);
        way(x, 1, 29, 1, 1, 1, 1, 5, 5, 5, 5, 5);
    }

    private static void goesByAllThatMayBeBarred() {
        for (int law = 0; law < 3; law++) {
            String text = "L" + law + "6350241";
            BesideBook x = Check.open(text);
            Model model = new Model();
            for (char sign : text.toCharArray()) {
                model.write(1, sign);
            }
            model.library();
            for (int barred = 0; barred < 64; barred++) {
                for (int book = 0; book < 6; book++) {
                    check.due(text + " goes(" + book + ", " + barred + ")", x.goes(book, barred), model.goes(book, barred));
                }
            }
        }
    }

    private static void goesWhereSomeAreAway() {
        BesideBook x = Check.open("L0876543210R00");
        check.due("8 stand there", x.goes(0, 0), Check.STATE);
        x.ask(0, 7);
        check.due("7 stand there", x.goes(0, 0), Check.STATE);
        check.due("7 stand there", x.goesAt(0, 0, 0), Check.STATE);
        x.ask(0, 7);
        Check.shelfIs(check, x, "743210");
        way(x, 0, 0, 1);
        way(x, 0, 2, 2, 2);
        way(x, 0, 255);
        way(x, 0, 96, 1);
        check.due("bits of all books may be barred", x.goes(0, 253), 1);
        check.due("but no more", x.goes(0, 256), Check.OUTSIDE);
        BesideBook alone = Check.open("L0201R00");
        alone.ask(0, 0);
        way(alone, 0, 0, 0);
        way(alone, 0, 1);
        way(alone, 0, 2, 0);
    }

    private static void around() {
        int[][] due = {{3, 1, 2, Check.NONE, 4}, {1, 1, 1, Check.NONE, 1}, {Check.NONE, Check.NONE, Check.NONE, 1, Check.NONE}};
        for (int law = 0; law < 3; law++) {
            BesideBook x = Check.open("L" + law + "540213");
            for (int book = 0; book < 5; book++) {
                check.due("around(" + book + ") by law " + law, x.around(book), due[law][book]);
            }
        }
        BesideBook eight = Check.open("L0876543210");
        check.due("around(7)", eight.around(7), 7);
        BesideBook alone = Check.open("L0201R00");
        alone.ask(0, 0);
        check.due("alone", alone.around(0), 1);
    }

    private static void never() {
        BesideBook x = Check.open("L0540213R00");
        check.due("4 gives all others", x.never(1, 4), 16);
        check.due("3 gives 4 for ever", x.never(1, 3), 15);
        check.due("2 gives 1 and 3", x.never(1, 2), 21);
        check.due("4, then 3", x.never(2, 43), 0);
        check.due("what does not stand there is left out", x.never(2, 94), 16);
        check.due("nothing is asked for", x.never(4, 9999), 31);
        check.due("a nought in front is told: 0, then 4", x.never(2, 4), 0);
        x.law(1);
        check.due("law 1: the same one for ever", x.never(1, 4), 30);
        check.due("law 1: two of them", x.never(2, 40), 26);
        x.law(2);
        check.due("law 2: 0, 2, 1, 3, then 3 for ever", x.never(1, 4), 16);
        x.law(0);
        x.ask(0, 4);
        check.due("what is away does not count", x.never(1, 4), 16);
        check.due("what is away is left out", x.never(1, 0), 30);
        check.due("5 is given in the 22nd round at first", Check.open("L0801234567").never(2, 57), 0);
        BesideBook empty = Check.open("L0201R00");
        empty.ask(0, 0);
        check.due("alone, itself", empty.never(1, 0), 0);
        check.due("alone, not asked for", empty.never(1, 1), 1);
        empty.ask(0, 0);
        check.due("nothing stands there", empty.never(4, 101), 0);
    }

    private static void ordered(BesideBook x, int worth, int... readers) {
        check.due("order", x.order(), worth);
        for (int i = 0; i < readers.length; i++) {
            check.due("orderAt(" + i + ")", x.orderAt(i), readers[i]);
        }
        for (int i : new int[] {-1, readers.length, 4, 5, Integer.MIN_VALUE, Integer.MAX_VALUE}) {
            check.due("orderAt(" + i + ")", x.orderAt(i), Check.NONE);
        }
    }

    private static void order() {
        BesideBook fresh = Check.open("L040123R15R29");
        check.due("the order, its worth not asked for before", fresh.orderAt(0), 1);
        check.due("the order, its worth not asked for before", fresh.orderAt(1), 0);
        ordered(new BesideBook(), 0);
        ordered(Check.open("L040123R15R29"), 14, 1, 0);
        ordered(Check.open("L040123R29R15"), 14, 0, 1);
        ordered(Check.open("L03012R07"), 7, 0);
        ordered(Check.open("L03012C021R07"), 0, 0);
        ordered(Check.open("L03012C021R27"), 0, 0);
        ordered(Check.open("L03012C201R07"), 7, 0);
        // The one of less worth is given 2, and only then 1 stands beside 0.
        ordered(Check.open("L040213C0123R18R12"), 8, 1, 0);
        ordered(Check.open("L040213C0123R18R12R05"), 13, 1, 0, 2);
        ordered(Check.open("L0201R09R09"), 9, 0, 1);
    }

    private static void orderOfLikes() {
        ordered(Check.open("L040123R11R11R11R11"), 1, 0, 1, 2, 3);
        ordered(Check.open("L040123R10R30R20R00"), 0, 0, 1, 2, 3);
        ordered(Check.open("L0801234567R13R33R53R73"), 12, 0, 1, 2, 3);
    }

    private static void orderWhereSomeAreAway() {
        BesideBook x = Check.open("L040123R15R29");
        x.ask(0, 0);
        Check.shelfIs(check, x, "023");
        ordered(x, 0, 0, 1);
        x.bring(1);
        Check.shelfIs(check, x, "0231");
        // Reader 1 asks for 1, the last, and is given 0; reader 0 asks for 0 and is given 2.
        ordered(x, 0, 0, 1);
        x.law(2);
        ordered(x, 0, 0, 1);
    }

    private static void nothingChanges() {
        BesideBook x = Check.open("L0540213C01234R20R35R19");
        x.ask(0, 0);
        x.seed(5);
        String before = Check.seen(x);
        x.meant(1);
        x.goes(1, 1);
        x.goesAt(1, 1, 0);
        x.around(4);
        x.never(4, 4013);
        x.order();
        x.orderAt(1);
        check.holds("nothing is changed", before.equals(Check.seen(x)));
        check.due("the act can still be undone", x.undo(), 0);
    }
}
