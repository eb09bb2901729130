/** Promises 29 to 31: keep, again, count. */
public final class SlotsTest {
    private static final Check check = new Check("SlotsTest");

    public static void main(String[] args) {
        keepAndAgain();
        whatIsNotKept();
        keptIsACopy();
        refused();
        count();
        check.end();
    }

    private static void keepAndAgain() {
        BesideBook x = Check.open("L0540213R20R45");
        x.ask(0, 0);
        check.due("keep", x.keep(0), 4);
        String first = told(x);
        x.ask(1, 3);
        check.due("keep", x.keep(1), 3);
        String second = told(x);
        check.due("keeping is no act and ends none", x.count(4), 2);
        x.bring(4);
        x.bring(2);
        check.due("all stand there", x.count(3), 5);
        check.due("again(0)", x.again(0), 4);
        check.holds("as it was kept in 0", told(x).equals(first));
        check.due("2 is with 0", x.book(2, 1), 0);
        check.due("0 was asked for", x.book(2, 2), 0);
        check.due("4 stands there", x.book(4, 1), Check.NONE);
        check.due("no acts", x.count(4), 0);
        check.due("nothing to undo", x.undo(), Check.STATE);
        check.due("again(1)", x.again(1), 3);
        check.holds("as it was kept in 1", told(x).equals(second));
        check.due("4 is with 1", x.book(4, 1), 1);
        check.due("3 was asked for", x.book(4, 2), 3);
        check.due("wishes", x.count(7), 3);
        check.due("bring goes on from there", x.bring(4), 3);
        check.due("one act", x.undo(), 0);
    }

    private static String told(BesideBook x) {
        StringBuilder told = new StringBuilder(Check.shelf(x));
        for (int book = 0; book < x.count(1); book++) {
            told.append(' ').append(x.book(book, 1)).append(' ').append(x.book(book, 2));
        }
        return told.toString();
    }

    private static void whatIsNotKept() {
        BesideBook x = Check.open("L0540213R20");
        x.given(0, 1);
        x.seed(5);
        x.keep(0);
        x.law(2);
        x.given(0, 2);
        x.seed(6);
        x.wipe();
        x.again(0);
        check.due("the law is not kept", x.count(6), 2);
        check.due("given is not kept", x.count(5), 2);
        check.due("the seed is not kept", x.seed(0), 6);
        check.due("the text is not kept", x.count(0), 0);
    }

    private static void keptIsACopy() {
        BesideBook x = Check.open("L0540213R20");
        x.keep(0);
        x.ask(0, 4);
        x.again(0);
        Check.shelfIs(check, x, "40213");
        x.ask(0, 4);
        x.bring(0);
        check.due("again and again", x.again(0), 5);
        Check.shelfIs(check, x, "40213");
        check.due("0 stands there", x.book(0, 1), Check.NONE);
        x.ask(0, 0);
        check.due("kept over what was kept", x.keep(0), 4);
        x.undo();
        check.due("the newer one", x.again(0), 4);
        Check.shelfIs(check, x, "4013");
        check.due("the other slot is still empty", x.again(1), Check.STATE);
    }

    private static void refused() {
        BesideBook x = Check.open("L0540213R20");
        x.ask(0, 0);
        for (int slot : new int[] {-1, 2, 32, Integer.MIN_VALUE, Integer.MAX_VALUE}) {
            check.refused(x, "keep(" + slot + ")", () -> x.keep(slot), Check.UNKNOWN);
            check.refused(x, "again(" + slot + ")", () -> x.again(slot), Check.UNKNOWN);
        }
        check.refused(x, "nothing in 0", () -> x.again(0), Check.STATE);
        x.keep(1);
        check.refused(x, "still nothing in 0", () -> x.again(0), Check.STATE);
        check.due("refusals leave the acts", x.undo(), 0);
        check.due("slot 1", x.again(1), 4);
        BesideBook empty = Check.open("L0201R00");
        empty.ask(0, 0);
        empty.ask(0, 0);
        check.due("an empty shelf is kept too", empty.keep(0), 0);
        empty.bring(0);
        check.due("and come back to", empty.again(0), 0);
        check.due("nothing stands there", empty.at(0), Check.NONE);
    }

    private static void count() {
        BesideBook x = Check.open("L1540213R20R45R00");
        x.ask(0, 0);
        x.ask(1, 3);
        x.ask(2, 0);
        x.given(0, 1);
        x.given(1, 0);
        int[] due = {17, 5, 3, 2, 3, 2, 1, 3};
        for (int what = 0; what < due.length; what++) {
            check.due("count(" + what + ")", x.count(what), due[what]);
        }
        check.due("its wish, given to another", x.bring(2), 1);
        check.due("one has its wish", x.count(7), 2);
        check.due("2 to one that does not wish it", x.ask(2, 0), 2);
        check.due("it does not count", x.count(7), 2);
        for (int what : new int[] {-1, 8, 9, Integer.MIN_VALUE, Integer.MAX_VALUE}) {
            check.refused(x, "count(" + what + ")", () -> x.count(what), Check.OUTSIDE);
        }
    }
}
