import java.util.function.Supplier;
import java.util.function.ToLongFunction;

/**
 * Objects that are made alike, new ones for each call that must change nothing: behind the call they are held
 * against ones without it, by all that calls tell, those too that undo, go on or open a library. Each side of
 * an object is told by one of its own, with other calls than the next side: what one of these calls changes
 * itself would else be the same with the call and without it, and so not be seen.
 */
final class Twins {
    private static final int SIDES = 13;

    private static final String[] BUSY = {
        "5 5 4 3 4 2 1 0",
        "023",
        "0 -9 -9 4, -9 3 2 3, 1 -9 -9 2, 2 -9 -9 1, -9 1 3 0, ",
        "2 0 0 0, 3 5 16 0, 1 9 0 0, 0 4 2 0, ",
        "0213 -9,-9 -9,-9 -9,-9 -9,-9 1,3; 013 -9,-9 -9,-9 0,0 -9,-9 1,3; 4013 -9,-9 -9,-9 0,0 -9,-9 -9,-9; "
            + "40213 -9,-9 -9,-9 -9,-9 -9,-9 -9,-9; ",
        "3 013 -9,-9 -9,-9 0,0 -9,-9 1,3",
        "4 0213 -9,-9 -9,-9 -9,-9 -9,-9 1,3",
        "10 2 31 31 31 31 31 by 0 8 by 1 10 by 2 8, 2",
        "0 0123-9",
        "77",
        "5 -3, 1 023, 43210 20 35 19 04",
        "6 -9 30, 2 102, 102",
        "-3 2 -3 -3 4 "};

    private final Check check;
    private final Supplier<BesideBook> make;
    private final String[] untouched = new String[SIDES];

    Twins(Check check, Supplier<BesideBook> make) {
        this.check = check;
        this.make = make;
        for (int side = 0; side < SIDES; side++) {
            untouched[side] = told(make.get(), side);
        }
    }

    /** That a call, refused or not, answers so and changes nothing. */
    void still(String call, ToLongFunction<BesideBook> answer, long want) {
        for (int side = 0; side < SIDES; side++) {
            BesideBook x = make.get();
            long got = answer.applyAsLong(x);
            check.due(call, got, want);
            if (got != want) {
                return;
            }
            check.alike(call + " changes nothing, by side " + side, told(x, side), untouched[side]);
        }
    }

    /**
     * Three of five books stand there, 0 2 3; reader 1 has 4 (for 3) and reader 3 has 1 (for 2), neither its
     * wish; four acts, law 1, two given, both slots kept; the text is one byte short of a library.
     */
    static BesideBook busy() {
        BesideBook x = Check.open("L0540213C43210R20R35R19R04");
        Check.told(x, "L2310");
        x.seed(77);
        x.ask(0, 0);
        x.ask(1, 3);
        x.keep(0);
        x.law(1);
        x.bring(2);
        x.keep(1);
        x.given(0, 2);
        x.given(1, 3);
        x.ask(3, 2);
        return x;
    }

    /** That objects are as a busy one, told here by hand: for calls that a busy one has had itself. */
    static void areBusy(Check check, Supplier<BesideBook> made) {
        for (int side = 0; side < SIDES; side++) {
            check.alike("side " + side + " of a busy one", told(made.get(), side), BUSY[side]);
        }
    }

    static void areAlike(Check check, Supplier<BesideBook> one, Supplier<BesideBook> other) {
        for (int side = 0; side < SIDES; side++) {
            check.alike("side " + side, told(one.get(), side), told(other.get(), side));
        }
    }

    private static String told(BesideBook x, int side) {
        switch (side) {
            case 0:
                return counts(x);
            case 1:
                return Check.shelf(x);
            case 2:
                return whats(x.count(1), x::book);
            case 3:
                return whats(x.count(2), x::reader);
            case 4:
                return acts(x);
            case 5:
            case 6:
                return x.again(side - 5) + " " + desk(x);
            case 7:
                return fits(x) + ", " + x.forget();
            case 8:
                return order(x);
            case 9:
                return String.valueOf(x.seed(0));
            case 10:
                return library(x);
            case 11:
                return x.write(1, '2') + " " + library(x);
            default:
                return brought(x);
        }
    }

    private interface What {
        int of(int one, int what);
    }

    private static String whats(int many, What what) {
        StringBuilder told = new StringBuilder();
        for (int one = 0; one < many; one++) {
            told.append(what.of(one, 0));
            for (int i = 1; i < 4; i++) {
                told.append(' ').append(what.of(one, i));
            }
            told.append(", ");
        }
        return told.toString();
    }

    private static String counts(BesideBook x) {
        StringBuilder told = new StringBuilder().append(x.count(0));
        for (int what = 1; what < 8; what++) {
            told.append(' ').append(x.count(what));
        }
        return told.toString();
    }

    private static String acts(BesideBook x) {
        StringBuilder told = new StringBuilder();
        for (int i = 0; i < 20 && x.undo() != Check.STATE; i++) {
            told.append(desk(x)).append("; ");
        }
        return told.toString();
    }

    /** What is away, and was asked for when it was given, by where it comes back to. */
    private static String brought(BesideBook x) {
        StringBuilder told = new StringBuilder();
        int books = x.count(1);
        for (int book = 0; book < books; book++) {
            told.append(x.bring(book)).append(' ');
        }
        return told.toString();
    }

    private static String fits(BesideBook x) {
        StringBuilder told = new StringBuilder().append(x.rows()).append(' ').append(x.next());
        int books = x.count(1);
        for (int book = 0; book < books; book++) {
            told.append(' ').append(x.stood(book));
        }
        for (int law = 0; law < 3; law++) {
            x.law(law);
            told.append(" by ").append(law).append(' ').append(x.rows());
        }
        return told.toString();
    }

    private static String order(BesideBook x) {
        StringBuilder told = new StringBuilder().append(x.order()).append(' ');
        for (int i = 0; i < 5; i++) {
            told.append(x.orderAt(i));
        }
        return told.toString();
    }

    /** What the text tells, be it a library or not. */
    private static String library(BesideBook x) {
        StringBuilder told = new StringBuilder().append(x.fault()).append(' ').append(x.library());
        told.append(", ").append(x.count(6)).append(' ').append(Check.shelf(x)).append(", ");
        int books = x.count(1);
        for (int book = 0; book < books; book++) {
            told.append(x.book(book, 3));
        }
        int readers = x.count(2);
        for (int reader = 0; reader < readers; reader++) {
            told.append(' ').append(x.reader(reader, 0)).append(x.reader(reader, 1));
        }
        return told.toString();
    }

    /** The shelf, then of each book who has it and what was asked for when it was given. */
    static String desk(BesideBook x) {
        StringBuilder told = new StringBuilder(Check.shelf(x));
        int books = x.count(1);
        for (int book = 0; book < books; book++) {
            told.append(' ').append(x.book(book, 1)).append(',').append(x.book(book, 2));
        }
        return told.toString();
    }
}
