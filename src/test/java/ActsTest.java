/** Promises 10 to 13: ask, bring, undo, judge. */
public final class ActsTest {
    private static final Check check = new Check("ActsTest");

    public static void main(String[] args) {
        ask();
        bringByLaws();
        bringBesideWhatIsAway();
        alone();
        undo();
        undoKeepsTheLaw();
        judge();
        check.end();
    }

    private static void ask() {
        BesideBook x = Check.open("L0540213C01234R20R35R19");
        check.due("right of 0", x.ask(0, 0), 2);
        Check.shelfIs(check, x, "4013");
        check.due("its wish", x.count(7), 1);
        check.due("right of the last: the first", x.ask(1, 3), 4);
        Check.shelfIs(check, x, "013");
        check.due("who", x.book(4, 1), 1);
        check.due("asked", x.book(4, 2), 3);
        check.due("one reader may have several", x.ask(1, 0), 1);
        check.due("4 and 1", x.reader(1, 2), 18);
        check.due("acts", x.count(4), 3);
        check.due("stand there", x.count(3), 2);
    }

    private static void bringByLaws() {
        String[] shelves = {"40132", "40213", "24013"};
        int[] places = {4, 2, 0};
        for (int law = 0; law < 3; law++) {
            BesideBook x = Check.open("L" + law + "540213R20");
            x.ask(0, 0);
            check.due("law " + law, x.bring(2), places[law]);
            Check.shelfIs(check, x, shelves[law]);
            check.due("nobody has it", x.book(2, 1), Check.NONE);
            check.due("nothing was asked for", x.book(2, 2), Check.NONE);
            check.due("acts", x.count(4), 2);
        }
        BesideBook last = Check.open("L1540213R20");
        last.ask(0, 3);
        check.due("right of the last", last.bring(4), 4);
        Check.shelfIs(check, last, "02134");
        BesideBook changed = Check.open("L1540213R20");
        changed.ask(0, 0);
        changed.law(0);
        check.due("by the law as it is then", changed.bring(2), 4);
    }

    private static void bringBesideWhatIsAway() {
        BesideBook x = Check.open("L1540213R20R00");
        check.due("2 for 0", x.ask(0, 0), 2);
        check.due("0 for 4", x.ask(1, 4), 0);
        check.due("0 is away: the end", x.bring(2), 3);
        Check.shelfIs(check, x, "4132");
        check.due("right of 4", x.bring(0), 1);
        Check.shelfIs(check, x, "40132");
    }

    private static void alone() {
        BesideBook x = Check.open("L1201R00");
        check.due("1 for 0", x.ask(0, 0), 1);
        check.due("alone: itself", x.ask(0, 0), 0);
        check.due("itself was asked for", x.book(0, 2), 0);
        check.due("nothing stands there", x.count(3), 0);
        check.due("back on an empty shelf", x.bring(0), 0);
        check.due("right of 0", x.bring(1), 1);
        for (int law = 0; law < 3; law++) {
            BesideBook empty = Check.open("L" + law + "201R00");
            empty.ask(0, 0);
            empty.ask(0, 0);
            check.due("law " + law + " on an empty shelf", empty.bring(1), 0);
            check.due("law " + law + ", itself asked for", empty.bring(0), law == 2 ? 0 : 1);
        }
    }

    private static void undo() {
        BesideBook x = Check.open("L2540213R20R00");
        check.due("nothing to undo", x.undo(), Check.STATE);
        String first = Check.seen(x);
        x.ask(0, 0);
        String second = Check.seen(x);
        x.ask(1, 3);
        String third = Check.seen(x);
        x.bring(2);
        String fourth = Check.seen(x);
        x.bring(4);
        check.due("4 acts", x.count(4), 4);
        check.due("bring 4 undone", x.undo(), 3);
        check.holds("4 is away again", fourth.equals(Check.seen(x)));
        check.due("who had it", x.book(4, 1), 1);
        check.due("what was asked for", x.book(4, 2), 3);
        check.due("bring 2 undone", x.undo(), 2);
        check.holds("2 is away again", third.equals(Check.seen(x)));
        check.due("ask 3 undone", x.undo(), 1);
        check.holds("4 stands in front again", second.equals(Check.seen(x)));
        check.due("ask 0 undone", x.undo(), 0);
        check.holds("as at first", first.equals(Check.seen(x)));
        check.due("no more", x.undo(), Check.STATE);
    }

    private static void undoKeepsTheLaw() {
        BesideBook x = Check.open("L0540213R20");
        x.ask(0, 0);
        x.law(2);
        x.bring(2);
        x.undo();
        check.due("the law is no act", x.count(6), 2);
        Check.shelfIs(check, x, "4013");
        x.undo();
        Check.shelfIs(check, x, "40213");
    }

    private static void judged(BesideBook x, int n, int row, int want) {
        check.due("judge(" + n + ", " + row + ")", x.judge(n, row), want);
    }

    private static void judge() {
        BesideBook x = Check.open("L0540213R20");
        judged(x, 1, 40, Check.NONE);
        judged(x, 1, 42, 0);
        judged(x, 1, 2, Check.NONE);
        judged(x, 1, 34, Check.NONE);
        judged(x, 1, 95, 0);
        judged(x, 1, 99, 0);
        judged(x, 1, 0, 0);
        judged(x, 2, 4042, Check.NONE);
        judged(x, 2, 4041, 1);
        judged(x, 2, 4142, 0);
        judged(x, 2, 240, Check.NONE);
        judged(x, 2, 241, 1);
        judged(x, 2, 2, 0);
        judged(x, 3, 404241, Check.NONE);
        judged(x, 3, 999999, 0);
        judged(x, 4, 40424143, Check.NONE);
        judged(x, 4, 40424140, 3);
        judged(x, 4, 40424043, 2);
        judged(x, 4, 99999999, 0);
        x.law(1);
        judged(x, 2, 4042, 1);
        judged(x, 2, 4040, Check.NONE);
        judged(x, 3, 343440, Check.NONE);
        judged(x, 3, 343442, 2);
        judged(x, 3, 343434, Check.NONE);
        x.law(2);
        judged(x, 3, 404232, Check.NONE);
        judged(x, 3, 404234, 2);
        x.ask(0, 4);
        judged(x, 1, 2, 0);
        judged(x, 1, 42, Check.NONE);
        BesideBook empty = Check.open("L0201R00");
        empty.ask(0, 0);
        judged(empty, 4, 0, Check.NONE);
        empty.ask(0, 0);
        judged(empty, 4, 0, 0);
    }
}
