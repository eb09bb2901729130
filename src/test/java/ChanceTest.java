/** Promises 26 to 28: clerk, seed, week. */
public final class ChanceTest {
    private static final Check check = new Check("ChanceTest");

    public static void main(String[] args) {
        clerkOfThree();
        clerkByLaws();
        clerkOfWhatIsAway();
        clerkAlone();
        chancesMakeOne();
        seed();
        week();
        weekChangesOnlyTheSeed();
        check.end();
    }

    private static void chance(BesideBook x, int asked, int given, int m, int tenths, long above, long below) {
        String call = "clerk(" + asked + ", " + given + ", " + m + ", " + tenths + ", ";
        check.due(call + "true)", x.clerk(asked, given, m, tenths, true), above);
        check.due(call + "false)", x.clerk(asked, given, m, tenths, false), below);
    }

    private static void clerkOfThree() {
        BesideBook x = Check.open("L03012");
        chance(x, 0, 1, 1, 0, 1, 1);
        chance(x, 0, 1, 1, 10, 1, 1);
        chance(x, 0, 2, 1, 5, 0, 1);
        chance(x, 0, 0, 1, 5, 0, 1);
        chance(x, 0, 2, 2, 7, 1, 1);
        chance(x, 0, 1, 2, 7, 0, 1);
        // Behind two trips the shelf is 012 or 201 if the first was put back by law, else 102 or 210.
        chance(x, 0, 1, 3, 3, 7, 10);
        chance(x, 0, 2, 3, 3, 3, 10);
        chance(x, 0, 1, 3, 4, 3, 5);
        chance(x, 0, 2, 3, 5, 1, 2);
        chance(x, 0, 1, 3, 0, 1, 1);
        chance(x, 0, 2, 3, 0, 0, 1);
        chance(x, 0, 1, 3, 10, 0, 1);
        chance(x, 0, 2, 3, 10, 1, 1);
        chance(x, 0, 1, 6, 0, 0, 1);
        chance(x, 0, 2, 6, 0, 1, 1);
    }

    private static void clerkByLaws() {
        BesideBook x = Check.open("L140123");
        // By law 1 book 1 stays beside 0; at the front it makes place for 2.
        chance(x, 0, 1, 2, 3, 7, 10);
        chance(x, 0, 2, 2, 3, 3, 10);
        // 3 is given once both have come to the front.
        chance(x, 0, 3, 3, 3, 9, 100);
        chance(x, 0, 1, 3, 3, 49, 100);
        chance(x, 0, 2, 3, 3, 21, 50);
        chance(x, 0, 1, 6, 3, 16807, 100000);
        x.law(2);
        chance(x, 0, 2, 2, 3, 1, 1);
        chance(x, 0, 3, 3, 3, 1, 1);
        chance(x, 0, 3, 6, 9, 1, 1);
    }

    private static void clerkOfWhatIsAway() {
        BesideBook x = Check.open("L03012R00");
        x.ask(0, 0);
        for (int m = 1; m <= 6; m++) {
            chance(x, 0, 1, m, 5, 0, 1);
            chance(x, 0, 2, m, 5, 1, 1);
        }
        check.due("one that is away may not be asked for", x.clerk(1, 0, 1, 0, true), Check.STATE);
    }

    private static void clerkAlone() {
        BesideBook x = Check.open("L0201R00");
        x.ask(0, 0);
        for (int m = 1; m <= 6; m++) {
            chance(x, 0, 0, m, 5, 1, 1);
            chance(x, 0, 1, m, 5, 0, 1);
        }
    }

    private static void chancesMakeOne() {
        for (int law = 0; law < 3; law++) {
            BesideBook x = Check.open("L" + law + "6403152");
            for (int tenths = 0; tenths <= 10; tenths++) {
                long parts = 0;
                for (int given = 0; given < 6; given++) {
                    parts += x.clerk(4, given, 6, tenths, true) * (100000 / x.clerk(4, given, 6, tenths, false));
                }
                check.due("all chances by law " + law + ", " + tenths + " tenths", parts, 100000);
            }
        }
    }

    private static void seed() {
        BesideBook x = new BesideBook();
        check.due("at first", x.seed(5), 0);
        check.due("then", x.seed(Long.MIN_VALUE), 5);
        check.due("then", x.seed(Long.MAX_VALUE), Long.MIN_VALUE);
        check.due("then", x.seed(-1), Long.MAX_VALUE);
        check.due("then", x.seed(0), -1);
    }

    /** How often a wish is given in weeks of 1 to so many trips, by a seed, and the seed behind the longest. */
    private static void weeks(int law, int wish, long seed, long behind, int... glad) {
        BesideBook x = Check.open("L" + law + "3012R" + wish + "5");
        for (int m = 1; m <= glad.length; m++) {
            x.seed(seed);
            check.due("week of " + m + " by law " + law + " for " + wish, x.week(0, m), glad[m - 1]);
        }
        check.due("the seed then", x.seed(0), behind);
    }

    private static void week() {
        long behind = -8100709956324362746L;
        // By law 0 there are given 0, 2, 2, 2, 1, 0; by law 2 it is 0, 1, 2, 0, 0, 0.
        weeks(0, 0, 0, behind, 1, 1, 1, 1, 1, 2);
        weeks(0, 1, 0, behind, 0, 0, 0, 0, 1, 1);
        weeks(0, 2, 0, behind, 0, 1, 2, 3, 3, 3);
        weeks(2, 0, 0, behind, 1, 1, 1, 2, 3, 4);
        weeks(2, 1, 0, behind, 0, 1, 1, 1, 1, 1);
        weeks(0, 0, -1, 7739682275686472611L, 0, 1, 2, 2);
        weeks(0, 0, 0, 1442695040888963407L, 1);
        BesideBook x = Check.open("L03012R05R15");
        check.due("0, 2, 2", x.week(1, 3), 0);
        // From the shelf as it is, 012, the fourth place 1 gives 2, the fifth 0, the sixth 1.
        check.due("the seed goes on, the shelf does not", x.week(1, 3), 1);
        check.due("the seed behind six", x.seed(0), behind);
    }

    private static void weekChangesOnlyTheSeed() {
        BesideBook x = Check.open("L03012R05R15");
        x.ask(0, 0);
        x.keep(1);
        x.seed(0);
        String before = Check.seen(x);
        x.week(0, 60);
        check.holds("the seed is another", x.seed(0) != 0);
        check.holds("all else is as it was", before.equals(Check.seen(x)));
        check.due("the act can still be undone", x.undo(), 0);
        BesideBook alone = Check.open("L0201R05R15");
        alone.ask(0, 0);
        check.due("alone, its wish each time", alone.week(0, 60), 60);
        check.due("alone, never its wish", alone.week(1, 60), 0);
    }
}
