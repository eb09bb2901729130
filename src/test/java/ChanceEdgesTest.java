import java.math.BigInteger;

/** Promises 26 to 28: a test for each sentence on a clerk's chances, the seed and weeks that names an edge. */
public final class ChanceEdgesTest {
    private static final Check check = new Check("ChanceEdgesTest");
    private static final BigInteger TIMES = new BigInteger("6364136223846793005");
    private static final BigInteger MORE = new BigInteger("1442695040888963407");
    private static final long[] SEEDS = {0, 1, -1, 5, 77, 1L << 32, 1L << 33, -1L << 33, Long.MAX_VALUE, Long.MIN_VALUE, 6364136223846793005L};

    public static void main(String[] args) {
        clerk();
        clerkRefused();
        seed();
        week();
        weekRefused();
        check.end();
    }

    private static BesideBook alone() {
        BesideBook x = Check.open("L0201R05R13");
        x.ask(0, 0);
        return x;
    }

    private static BesideBook emptyShelf() {
        BesideBook x = alone();
        x.ask(0, 0);
        x.seed(77);
        return x;
    }

    private static void clerk() {
        check.sentence("26: m-th (1 to 6): the first one", ChanceEdgesTest::theFirstTrip);
        check.sentence("26: m-th (1 to 6): the sixth", ChanceEdgesTest::theSixthTrip);
        check.sentence("26: x tenths (0 to 10): 0, always by LAW", ChanceEdgesTest::alwaysByLaw);
        check.sentence("26: x tenths (0 to 10): 10, always at the front", ChanceEdgesTest::alwaysAtTheFront);
        check.sentence("26: FRACTIONS in least terms", ChanceEdgesTest::leastTerms);
        check.sentence("26: below (1 and more): no chance is 0 over 1", ChanceEdgesTest::noChance);
        check.sentence("26: all chances make 1", ChanceEdgesTest::allMakeOne);
        check.sentence("26: a told one that is away", ChanceEdgesTest::toldOneIsAway);
        check.sentence("26: of the last: the first; alone: itself", ChanceEdgesTest::clerkOfTheLastAndAlone);
        check.sentence("26: clerk changes nothing", ChanceEdgesTest::clerkChangesNothing);
    }

    private static void chance(BesideBook x, int asked, int given, int m, int tenths, long above, long below) {
        String call = "clerk(" + asked + ", " + given + ", " + m + ", " + tenths + ", ";
        check.due(call + "true)", x.clerk(asked, given, m, tenths, true), above);
        check.due(call + "false)", x.clerk(asked, given, m, tenths, false), below);
    }

    private static void theFirstTrip() {
        for (int law = 0; law < 3; law++) {
            BesideBook x = Check.open("L" + law + "540213");
            for (int tenths = 0; tenths <= 10; tenths++) {
                chance(x, 0, 2, 1, tenths, 1, 1);
                chance(x, 0, 1, 1, tenths, 0, 1);
            }
        }
    }

    /** By LAW 1 1 stays beside 0 until it is put to the front, then 2 does, then 3. */
    private static void theSixthTrip() {
        BesideBook x = Check.open("L140123");
        chance(x, 0, 1, 6, 3, 16807, 100000);
        chance(x, 0, 2, 6, 3, 7203, 20000);
        chance(x, 0, 1, 6, 1, 59049, 100000);
        chance(x, 0, 1, 5, 3, 2401, 10000);
    }

    /** What is given in the m-th of round trips for one book, as readers ask and bring back. */
    private static int givenByHand(String text, int law, int asked, int m) {
        BesideBook x = Check.open(text);
        x.law(law);
        int given = Check.NONE;
        for (int i = 0; i < m; i++) {
            given = x.ask(0, asked);
            x.bring(given);
        }
        return given;
    }

    private static void sure(int law, int tenths, int lawByHand) {
        String text = "L" + law + "540213R00";
        for (int asked = 0; asked < 5; asked++) {
            BesideBook x = Check.open(text);
            for (int m = 1; m <= 6; m++) {
                int sure = givenByHand(text, lawByHand, asked, m);
                for (int given = 0; given < 5; given++) {
                    chance(x, asked, given, m, tenths, given == sure ? 1 : 0, 1);
                }
            }
        }
    }

    private static void alwaysByLaw() {
        for (int law = 0; law < 3; law++) {
            sure(law, 0, law);
        }
    }

    private static void alwaysAtTheFront() {
        for (int law = 0; law < 3; law++) {
            sure(law, 10, 2);
        }
    }

    private static void leastTerms() {
        long[][] due = {{1, 1}, {9, 10}, {4, 5}, {7, 10}, {3, 5}, {1, 2}, {2, 5}, {3, 10}, {1, 5}, {1, 10}, {0, 1}};
        BesideBook x = Check.open("L140123");
        for (int tenths = 0; tenths <= 10; tenths++) {
            chance(x, 0, 1, 2, tenths, due[tenths][0], due[tenths][1]);
            chance(x, 0, 2, 2, tenths, due[10 - tenths][0], due[10 - tenths][1]);
        }
        chance(x, 0, 2, 3, 5, 1, 2);
        chance(x, 0, 2, 3, 3, 21, 50);
    }

    private static void noChance() {
        BesideBook x = Check.open("L140123");
        for (int m = 1; m <= 6; m++) {
            chance(x, 0, 0, m, 5, 0, 1);
            chance(x, 3, 3, m, 0, 0, 1);
        }
        chance(x, 0, 3, 2, 5, 0, 1);
    }

    private static void allMakeOne() {
        for (int law = 0; law < 3; law++) {
            BesideBook x = Check.open("L" + law + "6403152");
            for (int m = 1; m <= 6; m++) {
                long parts = 0;
                for (int given = 0; given < 6; given++) {
                    parts += x.clerk(4, given, m, 3, true) * (100000 / x.clerk(4, given, m, 3, false));
                }
                check.due("by LAW " + law + " in the " + m + "-th", parts, 100000);
            }
        }
    }

    private static void toldOneIsAway() {
        BesideBook x = Twins.busy();
        for (int m = 1; m <= 6; m++) {
            chance(x, 0, 1, m, 5, 0, 1);
            chance(x, 0, 4, m, 0, 0, 1);
        }
    }

    private static void clerkOfTheLastAndAlone() {
        chance(Twins.busy(), 3, 0, 1, 5, 1, 1);
        for (int m = 1; m <= 6; m++) {
            chance(alone(), 0, 0, m, 5, 1, 1);
            chance(alone(), 0, 1, m, 5, 0, 1);
        }
    }

    private static void clerkChangesNothing() {
        Twins twins = new Twins(check, Twins::busy);
        twins.still("clerk(0, 2, 2, 3, true)", x -> x.clerk(0, 2, 2, 3, true), 7);
        twins.still("clerk(0, 2, 2, 3, false)", x -> x.clerk(0, 2, 2, 3, false), 10);
        twins.still("clerk(3, 4, 6, 9, true)", x -> x.clerk(3, 4, 6, 9, true), 0);
    }

    private static void clerkRefused() {
        check.sentence("26: UNKNOWN: asked", ChanceEdgesTest::clerkOfUnknownAsked);
        check.sentence("26: UNKNOWN: given", ChanceEdgesTest::clerkOfUnknownGiven);
        check.sentence("26: OUTSIDE: m (1 to 6)", ChanceEdgesTest::clerkOutsideM);
        check.sentence("26: OUTSIDE: x (0 to 10)", ChanceEdgesTest::clerkOutsideX);
        check.sentence("26: STATE: the one that is asked for is away", ChanceEdgesTest::clerkAway);
        check.sentence("26: of several the first: UNKNOWN, OUTSIDE", ChanceEdgesTest::clerkUnknownAheadOfOutside);
        check.sentence("26: of several the first: UNKNOWN, STATE", ChanceEdgesTest::clerkUnknownAheadOfState);
        check.sentence("26: of several the first: OUTSIDE, STATE", ChanceEdgesTest::clerkOutsideAheadOfState);
    }

    /** Above and below alike: refusals are told likewise. */
    private static void refused(Twins twins, int asked, int given, int m, int tenths, int want) {
        String call = "clerk(" + asked + ", " + given + ", " + m + ", " + tenths + ", ";
        twins.still(call + "true)", x -> x.clerk(asked, given, m, tenths, true), want);
        twins.still(call + "false)", x -> x.clerk(asked, given, m, tenths, false), want);
    }

    private static void clerkOfUnknownAsked() {
        Twins twins = new Twins(check, Twins::busy);
        for (int book : Check.outside(0, 4)) {
            refused(twins, book, 0, 1, 0, Check.UNKNOWN);
        }
    }

    private static void clerkOfUnknownGiven() {
        Twins twins = new Twins(check, Twins::busy);
        for (int book : Check.outside(0, 4)) {
            refused(twins, 0, book, 1, 0, Check.UNKNOWN);
        }
    }

    private static void clerkOutsideM() {
        Twins twins = new Twins(check, Twins::busy);
        for (int m : Check.outside(1, 6)) {
            refused(twins, 0, 2, m, 5, Check.OUTSIDE);
        }
    }

    private static void clerkOutsideX() {
        Twins twins = new Twins(check, Twins::busy);
        for (int tenths : Check.outside(0, 10)) {
            refused(twins, 0, 2, 1, tenths, Check.OUTSIDE);
            refused(twins, 0, 2, 6, tenths, Check.OUTSIDE);
        }
    }

    private static void clerkAway() {
        Twins twins = new Twins(check, Twins::busy);
        refused(twins, 1, 0, 1, 0, Check.STATE);
        refused(twins, 4, 4, 6, 10, Check.STATE);
        refused(new Twins(check, ChanceEdgesTest::emptyShelf), 0, 0, 1, 0, Check.STATE);
    }

    private static void clerkUnknownAheadOfOutside() {
        Twins twins = new Twins(check, Twins::busy);
        refused(twins, 5, 0, 0, 0, Check.UNKNOWN);
        refused(twins, 0, 5, 7, 0, Check.UNKNOWN);
        refused(twins, -1, 0, 1, 11, Check.UNKNOWN);
        refused(twins, 0, -1, 1, -1, Check.UNKNOWN);
    }

    private static void clerkUnknownAheadOfState() {
        Twins twins = new Twins(check, Twins::busy);
        refused(twins, 4, 5, 1, 0, Check.UNKNOWN);
        refused(twins, 1, -1, 6, 10, Check.UNKNOWN);
    }

    private static void clerkOutsideAheadOfState() {
        Twins twins = new Twins(check, Twins::busy);
        refused(twins, 4, 0, 0, 0, Check.OUTSIDE);
        refused(twins, 4, 0, 7, 0, Check.OUTSIDE);
        refused(twins, 1, 0, 1, -1, Check.OUTSIDE);
        refused(twins, 1, 0, 1, 11, Check.OUTSIDE);
    }

    private static void seed() {
        check.sentence("27: THE SEED is v: what it was", ChanceEdgesTest::whatTheSeedWas);
        check.sentence("27: nothing else changes", ChanceEdgesTest::onlyTheSeed);
    }

    private static void whatTheSeedWas() {
        BesideBook x = new BesideBook();
        long was = 0;
        for (long v : SEEDS) {
            check.due("seed(" + v + ")", x.seed(v), was);
            was = v;
        }
        check.due("the last one", x.seed(was), was);
        check.due("the same again", x.seed(0), was);
    }

    private static void onlyTheSeed() {
        Twins.areBusy(check, () -> {
            BesideBook x = Twins.busy();
            check.due("seed(5)", x.seed(5), 77);
            check.due("seed(6)", x.seed(6), 5);
            check.due("seed(77)", x.seed(77), 6);
            return x;
        });
    }

    private static void week() {
        check.sentence("28: x times .. and .. (64 bits, wrapping)", ChanceEdgesTest::wrapping);
        check.sentence("28: m (1 to 60) ROUND TRIPS", ChanceEdgesTest::oneToSixty);
        check.sentence("28: the upper 31 bits, by how many stand there, what is left", ChanceEdgesTest::upper31Bits);
        check.sentence("28: how often a READER's wish is given", ChanceEdgesTest::howOften);
        check.sentence("28: from THE SHELF as it is now, some being away", ChanceEdgesTest::weekWhereSomeAreAway);
        check.sentence("28: alone: itself", ChanceEdgesTest::weekAlone);
        check.sentence("28: Nothing changes but THE SEED", ChanceEdgesTest::onlyTheSeedChanges);
    }

    private static long behind(long seed) {
        return BigInteger.valueOf(seed).multiply(TIMES).add(MORE).longValue();
    }

    private static int placeBy(long seed, int standing) {
        BigInteger bits = BigInteger.valueOf(seed).mod(BigInteger.TWO.pow(64));
        return bits.shiftRight(33).mod(BigInteger.valueOf(standing)).intValue();
    }

    private static void wrapping() {
        check.due("of 0", behind(0), 1442695040888963407L);
        check.due("of 1", behind(1), 7806831264735756412L);
        for (long seed : SEEDS) {
            BesideBook x = Twins.busy();
            x.seed(seed);
            x.week(0, 1);
            check.due("THE SEED behind " + seed, x.seed(0), behind(seed));
        }
    }

    private static void oneToSixty() {
        for (int m : new int[] {1, 2, 7, 59, 60}) {
            long seed = 77;
            for (int i = 0; i < m; i++) {
                seed = behind(seed);
            }
            BesideBook x = Twins.busy();
            check.holds("week(0, " + m + ") is taken", x.week(0, m) >= 0);
            check.due("THE SEED behind it", x.seed(0), seed);
        }
    }

    /** A week of one trip gives what stands right of the place that the seed counts. */
    private static void upper31Bits() {
        for (int standing = 2; standing <= 8; standing++) {
            for (long seed : SEEDS) {
                BesideBook x = Check.open("L0" + standing + "01234567".substring(0, standing) + "R00R15");
                x.seed(seed);
                int given = (placeBy(behind(seed), standing) + 1) % standing;
                check.due("0 of " + standing + " by " + seed, x.week(0, 1), given == 0 ? 1 : 0);
                x.seed(seed);
                check.due("1 of " + standing + " by " + seed, x.week(1, 1), given == 1 ? 1 : 0);
            }
        }
    }

    /** How often a book is given in so many round trips, as a reader asks and brings back. */
    private static int gladByHand(BesideBook x, long seed, int m, int wish) {
        int standing = x.count(3);
        int glad = 0;
        long now = seed;
        for (int i = 0; i < m; i++) {
            now = behind(now);
            int given = x.ask(0, x.at(placeBy(now, standing)));
            x.bring(given);
            glad += given == wish ? 1 : 0;
        }
        return glad;
    }

    private static void howOften() {
        for (int law = 0; law < 3; law++) {
            for (String shelf : new String[] {"210", "540213", "876543210"}) {
                String text = "L" + law + shelf + "R00R11";
                for (long seed : SEEDS) {
                    for (int reader = 0; reader < 2; reader++) {
                        BesideBook x = Check.open(text);
                        x.seed(seed);
                        check.due(text + " by " + seed, x.week(reader, 60), gladByHand(Check.open(text), seed, 60, reader));
                    }
                }
            }
        }
    }

    private static void weekWhereSomeAreAway() {
        int[] wishes = {2, 3, 1, 0};
        for (int reader = 0; reader < 4; reader++) {
            int glad = gladByHand(Twins.busy(), 77, 60, wishes[reader]);
            check.due("week(" + reader + ", 60)", Twins.busy().week(reader, 60), glad);
        }
        check.due("one whose wish is away", Twins.busy().week(2, 60), 0);
    }

    private static void weekAlone() {
        for (int m : new int[] {1, 60}) {
            check.due("its wish each time", alone().week(0, m), m);
            check.due("never its wish", alone().week(1, m), 0);
        }
    }

    private static void onlyTheSeedChanges() {
        new Twins(check, Twins::busy).still("week(2, 60), then the seed that was", x -> {
            int glad = x.week(2, 60);
            x.seed(77);
            return glad;
        }, 0);
        BesideBook x = Check.open("L03012R05R15");
        x.week(0, 3);
        x.seed(0);
        check.due("the second week is as the first one", x.week(0, 3), Check.open("L03012R05R15").week(0, 3));
    }

    private static void weekRefused() {
        check.sentence("28: UNKNOWN", ChanceEdgesTest::weekUnknown);
        check.sentence("28: UNKNOWN: no READERS", ChanceEdgesTest::weekWithoutReaders);
        check.sentence("28: OUTSIDE: m", ChanceEdgesTest::weekOutside);
        check.sentence("28: STATE: nothing stands there", ChanceEdgesTest::weekOfAnEmptyShelf);
        check.sentence("28: of several the first: UNKNOWN, OUTSIDE, STATE", ChanceEdgesTest::weekRefusedTwice);
    }

    private static void weekUnknown() {
        Twins twins = new Twins(check, Twins::busy);
        for (int reader : Check.outside(0, 3)) {
            twins.still("week(" + reader + ", 1)", x -> x.week(reader, 1), Check.UNKNOWN);
        }
    }

    private static void weekWithoutReaders() {
        Twins twins = new Twins(check, BesideBook::new);
        twins.still("week(0, 1)", x -> x.week(0, 1), Check.UNKNOWN);
        twins.still("week(-1, 60)", x -> x.week(-1, 60), Check.UNKNOWN);
    }

    private static void weekOutside() {
        Twins twins = new Twins(check, Twins::busy);
        for (int m : Check.outside(1, 60)) {
            twins.still("week(0, " + m + ")", x -> x.week(0, m), Check.OUTSIDE);
        }
    }

    private static void weekOfAnEmptyShelf() {
        Twins twins = new Twins(check, ChanceEdgesTest::emptyShelf);
        twins.still("week(0, 1)", x -> x.week(0, 1), Check.STATE);
        twins.still("week(1, 60)", x -> x.week(1, 60), Check.STATE);
        BesideBook x = emptyShelf();
        x.week(0, 60);
        check.due("THE SEED is as it was", x.seed(0), 77);
    }

    private static void weekRefusedTwice() {
        Twins busy = new Twins(check, Twins::busy);
        busy.still("UNKNOWN, m too: week(4, 0)", x -> x.week(4, 0), Check.UNKNOWN);
        busy.still("UNKNOWN, m too: week(-1, 61)", x -> x.week(-1, 61), Check.UNKNOWN);
        Twins empty = new Twins(check, ChanceEdgesTest::emptyShelf);
        empty.still("UNKNOWN, nothing there too: week(2, 1)", x -> x.week(2, 1), Check.UNKNOWN);
        empty.still("m, nothing there too: week(0, 0)", x -> x.week(0, 0), Check.OUTSIDE);
        empty.still("m, nothing there too: week(0, 61)", x -> x.week(0, 61), Check.OUTSIDE);
    }
}
