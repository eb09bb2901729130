/** Promises 1 to 9: a new object, write, wipe, fault, library, at, book, reader, law. */
public final class LibraryTest {
    private static final Check check = new Check("LibraryTest");

    public static void main(String[] args) {
        newObject();
        write();
        wipe();
        faults();
        faultChangesNothing();
        library();
        libraryStartsAnew();
        at();
        book();
        reader();
        law();
        check.end();
    }

    private static void newObject() {
        BesideBook x = new BesideBook();
        int[] counts = {0, 2, 0, 2, 0, 0, 0, 0};
        for (int what = 0; what < counts.length; what++) {
            check.due("new: count(" + what + ")", x.count(what), counts[what]);
        }
        Check.shelfIs(check, x, "01");
        for (int book = 0; book < 2; book++) {
            check.due("new: its place", x.book(book, 0), book);
            check.due("new: who has it", x.book(book, 1), Check.NONE);
            check.due("new: what was asked for", x.book(book, 2), Check.NONE);
            check.due("new: its place in the catalogue", x.book(book, 3), book);
        }
        check.due("new: seed", x.seed(7), 0);
        check.due("new: fault of no text", x.fault(), 0);
        check.due("new: slot 0", x.again(0), Check.STATE);
        check.due("new: slot 1", x.again(1), Check.STATE);
        check.due("new: nobody to ask", x.ask(0, 0), Check.UNKNOWN);
        check.due("new: rows", x.rows(), 2);
    }

    private static void write() {
        BesideBook x = new BesideBook();
        check.due("write the lowest 3 of 8", x.write(3, 0xFFFFFFFFFF4C3032L), 3);
        check.due("L02 is begun", x.fault(), 3);
        check.due("write 2 of a negative", x.write(2, 0xFFFFFFFFFFFF3130L), 5);
        check.due("L0210", x.fault(), Check.NONE);
        check.due("library", x.library(), 20);
        Check.shelfIs(check, x, "10");
        x.wipe();
        check.due("write 8, the highest first", x.write(8, 0x4C30333231305238L), 8);
        check.due("L03210R8", x.fault(), 7);

        BesideBook full = new BesideBook();
        for (int i = 1; i <= 4; i++) {
            check.due("write 8", full.write(8, 0), 8 * i);
        }
        check.due("39", full.write(7, 0), 39);
        check.due("over 40 by one", full.write(2, 0), Check.FULL);
        check.due("over 40 by seven", full.write(8, 0), Check.FULL);
        check.due("40", full.write(1, 0), 40);
        check.due("41", full.write(1, 0), Check.FULL);
        check.due("OUTSIDE comes ahead of FULL", full.write(9, 0), Check.OUTSIDE);
        check.due("count of bytes", full.count(0), 40);

        BesideBook partly = new BesideBook();
        Check.write(partly, "L0201R11");
        for (int i = 0; i < 4; i++) {
            partly.write(7, 0);
        }
        check.due("what is FULL brings no byte at all", partly.write(8, 0), Check.FULL);
        check.due("36 bytes", partly.count(0), 36);
        check.due("4 bytes fit", partly.write(4, 0), 40);
    }

    private static void wipe() {
        BesideBook x = new BesideBook();
        check.due("wipe nothing", x.wipe(), 0);
        Check.write(x, "L0210R15");
        check.due("wipe 8", x.wipe(), 8);
        check.due("wipe again", x.wipe(), 0);
        check.due("no byte is left", x.count(0), 0);
        check.due("fault of no text", x.fault(), 0);
        Check.write(x, "L0210");
        check.due("old bytes are gone", x.library(), 20);
        x.wipe();
        check.due("the library stays", x.count(1), 2);
        Check.shelfIs(check, x, "10");
    }

    private static void fault(String text, int want) {
        check.due("fault of " + text, Check.fault(text), want);
    }

    private static void fine(String text) {
        fault(text, Check.NONE);
    }

    private static void faults() {
        fault("", 0);
        fault("X", 0);
        fault("l0201", 0);
        fault("\3140201", 0);
        fault("L", 1);
        fault("LX", 1);
        fault("L3201", 1);
        fault("L/", 1);
        fault("L\2600201", 1);
        fault("L3X", 1);
        fault("L2", 2);
        fault("L00", 2);
        fault("L01", 2);
        fault("L010", 2);
        fault("L09", 2);
        fault("L0/", 2);
        fault("L0\367", 2);
        fault("L08", 3);
        fault("L022", 3);
        fault("L02C", 3);
        fault("L021", 4);
        fault("L0211", 4);
        fault("L0212", 4);
        fine("L0210");
        fine("L1210");
        fine("L2210");
        fault("L02102", 5);
        fault("L0201L", 5);
        fault("L0201 ", 5);
        fault("L0201\0", 5);
        fine("L1876543210");
        fault("L187654321", 10);
        fault("L187654321R", 10);
        fault("L1876543217", 10);
        fault("L1876543218", 10);
        fault("L18765432109", 11);
        fault("L0201C", 6);
        fault("L0201C2", 6);
        fault("L0201CC", 6);
        fault("L0201C0", 7);
        fault("L0201C00", 7);
        fault("L0201C0R", 7);
        fine("L0201C01");
        fine("L0201C10");
        fault("L0201C10C", 8);
        fault("L0201C10C01", 8);
        fault("L0201C10R", 9);
        fault("L0201R", 6);
        fault("L0201R2", 6);
        fault("L0201RR", 6);
        fault("L0201R1", 7);
        fault("L0201R1:", 7);
        fault("L0201R1R", 7);
        fine("L0201R10");
        fine("L0201R19");
        fault("L0201R190", 8);
        fine("L0201R00C10R11");
        fault("L0201R00C10R11C", 14);
        fine("L0201R00R00R00R00");
        fault("L0201R00R00R00R00R", 17);
        fault("L0201R00R00R00R00R00", 17);
        fault("L0201R00R00R00R00C", 18);
        fine("L0201R00R00R00R00C10");
        fault("L0201R00R00R00R00C10R", 20);
        fine("L2801234567C76543210R70R71R72R79");
        fault("L2801234567C76543210R70R71R72R79R", 32);
        fault("L0201XXXXXXXXXXXXXXXXXXXXXXXXXXXXXXXXXXX", 5);
    }

    private static void faultChangesNothing() {
        BesideBook x = Check.open("L13201C012R07R19");
        x.ask(1, 2);
        x.wipe();
        Check.write(x, "L0876543210C01234567R70R61R52R4");
        String before = Check.seen(x);
        check.due("fault", x.fault(), 31);
        check.holds("fault changes nothing", before.equals(Check.seen(x)));
        check.due("books", x.count(1), 3);
        check.due("readers", x.count(2), 2);
        check.due("wish", x.reader(1, 0), 1);
        check.due("catalogue", x.book(2, 3), 2);
        Check.shelfIs(check, x, "21");
    }

    private static void library() {
        check.due("8 books, 4 readers", told("L2801234567C76543210R70R71R72R79").library(), 84);
        check.due("2 books, none", told("L0201").library(), 20);
        BesideBook x = Check.open("L2530142R45C43210R09");
        check.due("law", x.count(6), 2);
        check.due("readers", x.count(2), 2);
        Check.shelfIs(check, x, "30142");
        check.due("catalogue is told", x.book(4, 3), 0);
        check.due("catalogue is told", x.book(0, 3), 4);
        check.due("the text stays", x.count(0), 20);
        check.due("told again", x.library(), 52);
        BesideBook bare = Check.open("L2530142R45");
        check.due("the catalogue is the shelf", bare.book(3, 3), 0);
        check.due("the catalogue is the shelf", bare.book(2, 3), 4);
        bare.ask(0, 3);
        bare.bring(0);
        check.due("the shelf moved", bare.book(3, 0), 1);
        check.due("the catalogue is as the shelf was told", bare.book(3, 3), 0);
    }

    private static BesideBook told(String text) {
        BesideBook x = new BesideBook();
        Check.write(x, text);
        return x;
    }

    private static void libraryStartsAnew() {
        BesideBook x = Check.open("L03012R15R21");
        x.ask(0, 0);
        x.keep(0);
        x.keep(1);
        x.given(2, 0);
        x.seed(99);
        x.law(2);
        check.due("library", x.library(), 32);
        Check.shelfIs(check, x, "012");
        check.due("nobody has it", x.book(1, 1), Check.NONE);
        check.due("nothing was asked for", x.book(1, 2), Check.NONE);
        check.due("reader has nothing", x.reader(0, 2), 0);
        check.due("no acts", x.count(4), 0);
        check.due("nothing to undo", x.undo(), Check.STATE);
        check.due("slot 0 is gone", x.again(0), Check.STATE);
        check.due("slot 1 is gone", x.again(1), Check.STATE);
        check.due("the law is told", x.count(6), 0);
        check.due("given stays", x.count(5), 1);
        check.due("the seed stays", x.seed(0), 99);

        BesideBook fewer = Check.open("L0876543210C76543210R10R61R52R43");
        check.due("reader 0 has nothing", fewer.count(7), 0);
        fewer.wipe();
        Check.write(fewer, "L0210");
        check.due("fewer", fewer.library(), 20);
        check.due("no readers any more", fewer.reader(0, 0), Check.UNKNOWN);
        check.due("no such book any more", fewer.book(2, 0), Check.UNKNOWN);
        check.due("catalogue anew", fewer.book(1, 3), 0);
        fewer.wipe();
        Check.write(fewer, "L0201R15");
        check.due("one reader", fewer.library(), 21);
        fewer.ask(0, 0);
        check.due("it has its wish, the readers of old have nothing", fewer.count(7), 1);
    }

    private static void at() {
        BesideBook x = Check.open("L042031R00");
        int[] due = {2, 0, 3, 1, Check.NONE};
        for (int place = 0; place < due.length; place++) {
            check.due("at(" + place + ")", x.at(place), due[place]);
        }
        for (int place : new int[] {-1, -9, 8, Integer.MIN_VALUE, Integer.MAX_VALUE}) {
            check.due("at(" + place + ")", x.at(place), Check.NONE);
        }
        x.ask(0, 2);
        check.due("the gap is closed", x.at(1), 3);
        check.due("one less", x.at(3), Check.NONE);
    }

    private static void book() {
        BesideBook x = Check.open("L042031C0123R15R00");
        check.due("place", x.book(3, 0), 2);
        check.due("in the catalogue", x.book(3, 3), 3);
        x.ask(1, 0);
        check.due("away", x.book(3, 0), Check.NONE);
        check.due("who", x.book(3, 1), 1);
        check.due("asked", x.book(3, 2), 0);
        check.due("in the catalogue still", x.book(3, 3), 3);
        check.due("the next moves up", x.book(1, 0), 2);
        x.bring(3);
        check.due("back", x.book(3, 0), 3);
        check.due("nobody", x.book(3, 1), Check.NONE);
        check.due("stands there", x.book(3, 2), Check.NONE);
    }

    private static void reader() {
        BesideBook x = Check.open("L042031R37R09");
        check.due("wish", x.reader(0, 0), 3);
        check.due("worth", x.reader(0, 1), 7);
        check.due("wish", x.reader(1, 0), 0);
        check.due("worth", x.reader(1, 1), 9);
        check.due("has nothing", x.reader(0, 2), 0);
        x.ask(1, 2);
        check.due("has 0", x.reader(1, 2), 1);
        check.due("its wish", x.reader(1, 3), 1);
        x.undo();
        x.ask(0, 3);
        check.due("has 1", x.reader(0, 2), 2);
        check.due("not its wish", x.reader(0, 3), 0);
        x.ask(0, 0);
        check.due("has 1 and 3", x.reader(0, 2), 10);
        check.due("its wish", x.reader(0, 3), 1);
        check.due("the other has nothing", x.reader(1, 2), 0);
        check.due("the other has not its wish", x.reader(1, 3), 0);
        check.due("one with its wish", x.count(7), 1);
        x.bring(3);
        check.due("brought back", x.reader(0, 3), 0);
        check.due("has 1", x.reader(0, 2), 2);
    }

    private static void law() {
        BesideBook x = new BesideBook();
        check.due("law(2)", x.law(2), 0);
        check.due("law(1)", x.law(1), 2);
        check.due("law(1)", x.law(1), 1);
        check.due("count", x.count(6), 1);
        check.due("law(0)", x.law(0), 1);
        check.due("it is no act", x.count(4), 0);
    }
}
