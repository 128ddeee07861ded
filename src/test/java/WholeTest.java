import java.util.function.Supplier;

/** Promises 23 to 25: told, undo, digest; and the constants. */
public final class WholeTest {
    private static final int NONE = MonthPage.NONE;
    private static final Due due = new Due();

    public static void main(String[] args) {
        constants();
        promise23Told();
        promise24Undo();
        promise24UndoOfEachChange();
        promise24EightStates();
        promise24FaultsAreNotRecorded();
        promise25Digest();
        due.end();
    }

    private static void constants() {
        due.is("BAD", MonthPage.BAD, -1);
        due.is("STATE", MonthPage.STATE, -2);
        due.is("FULL", MonthPage.FULL, -3);
        due.is("NONE", MonthPage.NONE, -9);
    }

    private static void promise23Told() {
        MonthPage x = new MonthPage();
        x.setPage(3, 24);
        x.setWeek(2);
        x.setRows(1);
        x.add(0, 9, NONE, 0);
        x.add(8, 8, 30, 0);
        x.add(50, 60, NONE, 0);
        x.add(70, 70, 5, 0);
        x.type('5');
        long[] got = new long[12];
        for (int what = 0; what < 12; what++) {
            got[what] = x.told(what);
        }
        due.are("told", got, 3, 24, 2, 1, 4, 4, 2, 2, 2, 2, 1, 7);
        due.is("told(12)", x.told(12), MonthPage.BAD);
        due.is("told(-1)", x.told(-1), MonthPage.BAD);
        due.is("told(MIN)", x.told(Integer.MIN_VALUE), MonthPage.BAD);
    }

    private static void promise24Undo() {
        MonthPage x = new MonthPage();
        due.is("none", x.undo(), MonthPage.STATE);
        x.add(3, 5, NONE, 0);
        x.setRows(2);
        x.type('9');
        due.is("undo", x.undo(), 1);
        due.is("rows", x.told(3), 4);
        due.is("the text stays", x.told(10), 1);
        due.is("undo", x.undo(), 0);
        due.is("entries", x.told(5), 0);
        due.is("laid", x.shown(4, 0), NONE);
        due.is("undo is no change", x.undo(), MonthPage.STATE);
    }

    private static void promise24UndoOfEachChange() {
        MonthPage x = new MonthPage();
        x.add(3, 9, NONE, 7);
        x.add(3, 3, 15, 2);
        x.type('5');
        x.type(';');
        long before = x.digest();
        x.setPage(1, 40);
        x.undo();
        due.is("setPage", x.digest(), before);
        x.setWeek(4);
        x.undo();
        due.is("setWeek", x.digest(), before);
        x.setRows(1);
        x.undo();
        due.is("setRows", x.digest(), before);
        x.load();
        x.undo();
        due.is("load", x.digest(), before);
        x.add(3, 3, NONE, 1);
        x.undo();
        due.is("add", x.digest(), before);
        x.drop(0);
        x.undo();
        due.is("drop", x.digest(), before);
        x.move(0, 1);
        x.undo();
        due.is("move", x.digest(), before);
        x.stretch(1, 8);
        x.undo();
        due.is("stretch", x.digest(), before);
        x.settle(1, NONE, 9);
        x.undo();
        due.is("settle", x.digest(), before);
    }

    private static void promise24EightStates() {
        MonthPage x = new MonthPage();
        for (int n = 1; n <= 11; n++) {
            x.setPage(n, n);
            due.is("states", x.told(11), Math.min(n, 8));
        }
        for (int n = 7; n >= 0; n--) {
            due.is("undo", x.undo(), n);
            due.is("page", x.told(0), n + 3);
        }
        due.is("the oldest ones are dropped", x.undo(), MonthPage.STATE);
        due.is("page", x.told(0), 3);
        x.setPage(20, 20);
        x.setPage(21, 21);
        due.is("undo", x.undo(), 1);
        x.setPage(22, 22);
        due.is("undo", x.undo(), 1);
        due.is("page", x.told(0), 20);
        due.is("undo", x.undo(), 0);
        due.is("page", x.told(0), 3);
    }

    private static void promise24FaultsAreNotRecorded() {
        MonthPage x = new MonthPage();
        x.add(998, 998, NONE, 0);
        x.type('x');
        int states = x.told(11);
        x.setPage(5, 4);
        x.setWeek(7);
        x.setRows(0);
        x.load();
        x.add(1, 0, 0, 0);
        x.drop(1);
        x.move(0, 5);
        x.stretch(0, 3);
        x.settle(0, -1, 0);
        due.is("states", x.told(11), states);
    }

    /** Like objects, asked in turn for few calls each: one object answers 512 calls. */
    private static final class Asked {
        private final Supplier<MonthPage> make;
        private MonthPage x = null;
        private int calls = 0;

        Asked(Supplier<MonthPage> make) {
            this.make = make;
        }

        MonthPage next() {
            if (calls % 300 == 0) {
                x = make.get();
            }
            calls++;
            return x;
        }
    }

    /** The digest as the promise tells it, of an object's own answers. */
    private static long digestOf(Supplier<MonthPage> make) {
        Asked x = new Asked(make);
        int weeks = x.next().told(4);
        int entries = x.next().told(5);
        long h = 43104;
        for (int what = 0; what <= 11; what++) {
            h = 31 * h + x.next().told(what);
        }
        for (int e = 0; e < entries; e++) {
            for (int what = 0; what <= 7; what++) {
                h = 31 * h + x.next().entry(e, what);
            }
            for (int n = 0; n < 5 * weeks; n++) {
                h = 31 * h + x.next().bar(e, n / 5, n % 5);
            }
        }
        for (int n = 0; n < 6 * weeks; n++) {
            h = 31 * h + x.next().week(n / 6, n % 6);
        }
        int last = x.next().told(1);
        for (int day = x.next().told(0); day <= last; day++) {
            for (int n = 0; n < 18; n++) {
                h = 31 * h + (n < 6 ? x.next().day(day, n) : x.next().shown(day, n - 6));
            }
        }
        h = 31 * h + x.next().enough();
        return 31 * h + x.next().free(1, false);
    }

    private static void digestIs(String name, Supplier<MonthPage> make) {
        due.is(name, make.get().digest(), digestOf(make));
    }

    private static MonthPage with(int entries) {
        MonthPage x = new MonthPage();
        x.setPage(4, 45);
        x.setWeek(5);
        x.setRows(2);
        for (int n = 0; n < entries; n++) {
            x.add(n, n + n % 6, n % 4 == 1 ? n : NONE, n % 10);
        }
        return x;
    }

    private static void promise25Digest() {
        due.is("two new ones", new MonthPage().digest(), new MonthPage().digest());
        digestIs("new", MonthPage::new);
        digestIs("some", Pages::some);
        digestIs("full", Pages::full);
        digestIs("small", Pages::small);
        for (int n = 0; n <= 24; n++) {
            int entries = n;
            digestIs("with " + n, () -> with(entries));
        }
        due.is("a single free day at first", Pages.one(1, 2, NONE, 0).free(2, false), 3);
        digestIs("a single free day at first", () -> Pages.one(1, 2, NONE, 0));
        MonthPage x = with(24);
        long before = x.digest();
        x.type('5');
        due.is("the text counts", x.digest() == before ? 1 : 0, 0);
        x.clear();
        due.is("nothing else did", x.digest(), before);
    }
}
