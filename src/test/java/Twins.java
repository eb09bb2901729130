import java.util.function.Supplier;
import java.util.function.ToLongFunction;

/**
 * Objects that are made alike, a new one for each call that must change nothing. Behind the call it is held
 * against one without the call by all that calls tell of it, those too that undo, go on or open a library.
 */
final class Twins {
    private final Check check;
    private final Supplier<BesideBook> make;
    private final String untouched;

    Twins(Check check, Supplier<BesideBook> make) {
        this.check = check;
        this.make = make;
        untouched = spent(make.get());
    }

    /** That a call, refused or not, answers so and changes nothing. */
    void still(String call, ToLongFunction<BesideBook> answer, long want) {
        BesideBook x = make.get();
        check.due(call, answer.applyAsLong(x), want);
        check.alike(call + " changes nothing", spent(x), untouched);
    }

    /**
     * Three of five books stand there, 0 2 3; reader 1 has 4 (for 3) and reader 3 has 1 (for 2), neither its
     * wish; four acts, law 1, two given, both slots kept; the text is one byte short of a library.
     */
    static BesideBook busy() {
        BesideBook x = Check.open("L0540213C43210R20R35R19R04");
        x.ask(0, 0);
        x.ask(1, 3);
        x.keep(0);
        x.law(1);
        x.bring(2);
        x.keep(1);
        x.ask(3, 2);
        x.given(0, 2);
        x.given(1, 3);
        x.seed(77);
        Check.told(x, "L2310");
        return x;
    }

    /** All that an object's calls tell; it is another one behind it. Of its 512 calls some 300 are used. */
    static String spent(BesideBook x) {
        StringBuilder told = new StringBuilder(Check.seen(x));
        told.append(" order ").append(x.order());
        tellGiven(x, told);
        for (int i = 0; i < 20 && x.undo() != Check.STATE; i++) {
            told.append(" undone ").append(desk(x));
        }
        for (int slot = 0; slot < 2; slot++) {
            told.append(" slot ").append(x.again(slot)).append(' ').append(desk(x));
        }
        told.append(" text ").append(x.library()).append(' ').append(Check.seen(x));
        x.write(1, '2');
        return told.append(" text ").append(x.library()).append(' ').append(Check.seen(x)).toString();
    }

    private static void tellGiven(BesideBook x, StringBuilder told) {
        int books = x.count(1);
        for (int law = 0; law < 3; law++) {
            x.law(law);
            told.append(" law ").append(law).append(' ').append(x.rows()).append(' ').append(x.next());
            for (int book = 0; book < books; book++) {
                told.append(' ').append(x.stood(book));
            }
        }
    }

    /** The shelf, then of each book who has it and what was asked for when it was given. */
    static String desk(BesideBook x) {
        StringBuilder told = new StringBuilder(Check.shelf(x));
        int books = x.count(1);
        for (int book = 0; book < books; book++) {
            told.append(' ').append(x.book(book, 1)).append(',').append(x.book(book, 2));
        }
        return told.toString();
    }
}
