/** Promises 29 to 31: keep, again, count. */
public final class SlotsTest {
    private static final Check check = new Check("SlotsTest");

    public static void main(String[] args) {
        keepAndAgain();
        whatIsNotKept();
        keptIsACopy();
        count();
        check.end();
    }

    private static void keepAndAgain() {
        BesideBook x = Check.open("L0540213R20R45");
        x.ask(0, 0);
        check.due("keep", x.keep(0), 4);
        String first = Twins.desk(x);
        x.ask(1, 3);
        check.due("keep", x.keep(1), 3);
        String second = Twins.desk(x);
        check.due("keeping is no act and ends none", x.count(4), 2);
        x.bring(4);
        x.bring(2);
        check.due("all stand there", x.count(3), 5);
        check.due("again(0)", x.again(0), 4);
        check.holds("as it was kept in 0", Twins.desk(x).equals(first));
        check.due("2 is with 0", x.book(2, 1), 0);
        check.due("0 was asked for", x.book(2, 2), 0);
        check.due("4 stands there", x.book(4, 1), Check.NONE);
        check.due("no acts", x.count(4), 0);
        check.due("nothing to undo", x.undo(), Check.STATE);
        check.due("again(1)", x.again(1), 3);
        check.holds("as it was kept in 1", Twins.desk(x).equals(second));
        check.due("4 is with 1", x.book(4, 1), 1);
        check.due("3 was asked for", x.book(4, 2), 3);
        check.due("wishes", x.count(7), 3);
        check.due("bring goes on from there", x.bring(4), 3);
        check.due("one act", x.undo(), 0);
    }

    private static void whatIsNotKept() {
        BesideBook x = Check.open("L0540213R20");
        x.given(0, 1);
        x.seed(5);
        x.keep(0);
        x.law(2);
        x.given(0, 2);
        x.seed(6);
        x.wipe();
        x.again(0);
        check.due("the law is not kept", x.count(6), 2);
        check.due("given is not kept", x.count(5), 2);
        check.due("the seed is not kept", x.seed(0), 6);
        check.due("the text is not kept", x.count(0), 0);
    }

    private static void keptIsACopy() {
        BesideBook x = Check.open("L0540213R20");
        x.keep(0);
        x.ask(0, 4);
        x.again(0);
        Check.shelfIs(check, x, "40213");
        x.ask(0, 4);
        x.bring(0);
        check.due("again and again", x.again(0), 5);
        Check.shelfIs(check, x, "40213");
        check.due("0 stands there", x.book(0, 1), Check.NONE);
        x.ask(0, 0);
        check.due("kept over what was kept", x.keep(0), 4);
        x.undo();
        check.due("the newer one", x.again(0), 4);
        Check.shelfIs(check, x, "4013");
        check.due("the other slot is still empty", x.again(1), Check.STATE);
    }

    private static void count() {
        BesideBook x = Check.open("L1540213R20R45R00");
        x.ask(0, 0);
        x.ask(1, 3);
        x.ask(2, 0);
        x.given(0, 1);
        x.given(1, 0);
        int[] due = {17, 5, 3, 2, 3, 2, 1, 3};
        for (int what = 0; what < due.length; what++) {
            check.due("count(" + what + ")", x.count(what), due[what]);
        }
        check.due("its wish, given to another", x.bring(2), 1);
        check.due("one has its wish", x.count(7), 2);
        check.due("2 to one that does not wish it", x.ask(2, 0), 2);
        check.due("it does not count", x.count(7), 2);
    }
}
