import java.util.function.Supplier;

/** Each argument of each call: just below and just above its range, and at both ends of it. */
public final class RangesTest {
    private static final int NONE = MonthPage.NONE;
    private static final int BAD = MonthPage.BAD;
    private static final int STATE = MonthPage.STATE;
    private static final Due due = new Due();

    private interface Call {
        long on(MonthPage x, int n);
    }

    public static void main(String[] args) {
        promise2SetPage();
        promises3And4SetWeekAndSetRows();
        promise5Week();
        promise6Type();
        promise9AddDays();
        promise9AddTimeAndRank();
        promise10Drop();
        promise11Move();
        promise11MoveToTheEnds();
        promise12Stretch();
        promise13Settle();
        promise14Entry();
        promise15Bar();
        promise16Shown();
        promises17And18RowOfAndDay();
        promises20And21IfRowsAndFree();
        promises22And23BestDayAndTold();
        entriesOfFullAndEmptyPages();
        due.end();
    }

    /** Each call is made on an object of its own. Outside the range it is BAD, and changes nothing. */
    private static void range(String name, Supplier<MonthPage> make, Call call,
            int least, long atLeast, int most, long atMost) {
        int[] outside = {least - 1, most + 1, Integer.MIN_VALUE, Integer.MAX_VALUE, -999999, 999999};
        for (int n : outside) {
            bad(name, make, call, n);
        }
        due.is(name + " with " + least, call.on(make.get(), least), atLeast);
        due.is(name + " with " + most, call.on(make.get(), most), atMost);
    }

    private static void some(String name, Call call, int least, long atLeast, int most, long atMost) {
        range(name, Pages::some, call, least, atLeast, most, atMost);
    }

    private static void bad(String name, Supplier<MonthPage> make, Call call, int n) {
        Refusal.unchanged(due, name + " with " + n, make, x -> call.on(x, n), BAD);
    }

    private static void promise2SetPage() {
        some("setPage(n, n)", (x, n) -> x.setPage(n, n), 0, 1, 999, 1);
        some("setPage(3, n)", (x, n) -> x.setPage(3, n), 3, 1, 44, 7);
        some("setPage(0, n)", (x, n) -> x.setPage(0, n), 0, 1, 41, 7);
        some("setPage(958, n)", (x, n) -> x.setPage(958, n), 958, 1, 999, 7);
        some("setPage(959, n): 999 is less than 41 days more", (x, n) -> x.setPage(959, n), 959, 1, 999, 7);
        some("setPage(999, n)", (x, n) -> x.setPage(999, n), 999, 1, 999, 1);
        some("setPage(n, 24)", (x, n) -> x.setPage(n, 24), 0, 5, 24, 1);
        some("setPage(n, 100)", (x, n) -> x.setPage(n, 100), 59, 7, 100, 1);
        some("setPage(n, 0)", (x, n) -> x.setPage(n, 0), 0, 1, 0, 1);
        for (int more : new int[] {42, 43, 84, 999}) {
            bad("setPage(0, n): too many days", Pages::some, (x, n) -> x.setPage(0, n), more);
            bad("setPage(n, 999): too many days", Pages::some, (x, n) -> x.setPage(n, 999), 999 - more);
        }
    }

    private static void promises3And4SetWeekAndSetRows() {
        some("setWeek(n)", (x, n) -> x.setWeek(n), 0, 4, 6, 4);
        some("setRows(n)", (x, n) -> x.setRows(n), 1, 2, 12, 2);
    }

    private static void promise5Week() {
        some("week(0, n)", (x, n) -> x.week(0, n), 0, 3, 5, 3);
        Call first = (x, n) -> x.week(n, 0);
        bad("week(n, 0)", Pages::some, first, -1);
        bad("week(n, 0)", Pages::some, first, Integer.MIN_VALUE);
        due.is("the first week", Pages.some().week(0, 0), 3);
        due.is("the last week", Pages.some().week(3, 0), 23);
        due.is("the week behind the last one", Pages.some().week(4, 0), NONE);
        due.is("a week far behind", Pages.some().week(Integer.MAX_VALUE, 5), NONE);
    }

    private static void promise6Type() {
        some("type(n)", (x, n) -> x.type(n), 33, 6, 126, 6);
    }

    private static void promise9AddDays() {
        some("add(n, 999, ..)", (x, n) -> x.add(n, 999, 0, 0), 0, 5, 999, 5);
        some("add(n, 7, ..)", (x, n) -> x.add(n, 7, 0, 0), 0, 5, 7, 5);
        some("add(n, n, ..)", (x, n) -> x.add(n, n, NONE, 0), 0, 5, 999, 5);
        some("add(0, n, ..)", (x, n) -> x.add(0, n, 0, 0), 0, 5, 999, 5);
        some("add(7, n, ..)", (x, n) -> x.add(7, n, 0, 0), 7, 5, 999, 5);
        some("add(999, n, ..)", (x, n) -> x.add(999, n, 0, 0), 999, 5, 999, 5);
    }

    private static void promise9AddTimeAndRank() {
        Call time = (x, n) -> x.add(5, 5, n, 0);
        some("add(.., time, 0)", time, 0, 5, 1439, 5);
        due.is("add without a time", time.on(Pages.some(), NONE), 5);
        bad("add(.., time, 0): next to NONE", Pages::some, time, NONE - 1);
        bad("add(.., time, 0): next to NONE", Pages::some, time, NONE + 1);
        Call rank = (x, n) -> x.add(5, 5, 0, n);
        some("add(.., rank)", rank, 0, 5, 9, 5);
        bad("a rank is never none", Pages::some, rank, NONE);
    }

    private static void promise10Drop() {
        some("drop(n)", (x, n) -> x.drop(n), 0, 4, 4, 4);
    }

    private static void promise11Move() {
        some("move(n, 1)", (x, n) -> x.move(n, 1), 0, 1, 4, 51);
        Supplier<MonthPage> first = () -> Pages.one(0, 0, NONE, 0);
        Supplier<MonthPage> last = () -> Pages.one(999, 999, NONE, 0);
        Call move = (x, n) -> x.move(0, n);
        range("move(0, n) from day 0", first, move, -999, STATE, 999, 999);
        range("move(0, n) from day 999", last, move, -999, 0, 999, STATE);
    }

    private static void promise11MoveToTheEnds() {
        Supplier<MonthPage> make = () -> Pages.one(10, 12, 5, 5);
        due.is("its first day is 0 then", make.get().move(0, -10), 0);
        Refusal.unchanged(due, "its first day would be -1", make, x -> x.move(0, -11), STATE);
        due.is("its last day is 999 then", make.get().move(0, 987), 997);
        Refusal.unchanged(due, "its last day would be 1000", make, x -> x.move(0, 988), STATE);
        Supplier<MonthPage> whole = () -> Pages.one(0, 999, NONE, 0);
        due.is("it fits just where it is", whole.get().move(0, 0), 0);
        Refusal.unchanged(due, "no room before it", whole, x -> x.move(0, -1), STATE);
        Refusal.unchanged(due, "no room behind it", whole, x -> x.move(0, 1), STATE);
    }

    private static void promise12Stretch() {
        some("stretch(n, 70)", (x, n) -> x.stretch(n, 70), 0, 71, 4, 21);
        some("stretch(0, n)", (x, n) -> x.stretch(0, n), 0, 1, 999, 1000);
        some("stretch(4, n)", (x, n) -> x.stretch(4, n), 0, STATE, 999, 950);
        due.is("stretch to its first day", Pages.some().stretch(4, 50), 1);
        Refusal.unchanged(due, "stretch to the day before", Pages::some, x -> x.stretch(4, 49), STATE);
        Refusal.unchanged(due, "stretch to day 0", Pages::some, x -> x.stretch(4, 0), STATE);
        due.is("from day 999", Pages.one(999, 999, 0, 0).stretch(0, 999), 1);
        due.is("from day 999", Pages.one(999, 999, 0, 0).stretch(0, 998), STATE);
    }

    private static void promise13Settle() {
        some("settle(n, 5, 5)", (x, n) -> x.settle(n, 5, 5), 0, 1, 4, 1);
        Call time = (x, n) -> x.settle(1, n, 0);
        some("settle(1, n, 0)", time, 0, 0, 1439, 0);
        due.is("settle without a time", time.on(Pages.some(), NONE), 1);
        bad("settle(1, n, 0): next to NONE", Pages::some, time, NONE - 1);
        bad("settle(1, n, 0): next to NONE", Pages::some, time, NONE + 1);
        some("settle(1, 0, n)", (x, n) -> x.settle(1, 0, n), 0, 0, 9, 0);
        bad("a rank is never none", Pages::some, (x, n) -> x.settle(1, 0, n), NONE);
    }

    private static void promise14Entry() {
        some("entry(n, 0)", (x, n) -> x.entry(n, 0), 0, 0, 4, 50);
        some("entry(0, n)", (x, n) -> x.entry(0, n), 0, 0, 7, 2);
    }

    private static void promise15Bar() {
        some("bar(n, 0, 0)", (x, n) -> x.bar(n, 0, 0), 0, 0, 4, NONE);
        some("bar(0, 0, n)", (x, n) -> x.bar(0, 0, n), 0, 0, 4, 1);
        Call lane = (x, n) -> x.bar(3, n, 0);
        bad("bar(3, n, 0)", Pages::some, lane, -1);
        bad("bar(3, n, 0)", Pages::some, lane, Integer.MIN_VALUE);
        due.is("in the first week", lane.on(Pages.some(), 0), 1);
        due.is("in the last week with a bar", lane.on(Pages.some(), 1), 1);
        due.is("in the week behind", lane.on(Pages.some(), 2), NONE);
        due.is("in the last week", lane.on(Pages.some(), 3), NONE);
        due.is("behind the last week", lane.on(Pages.some(), 4), NONE);
        due.is("far behind", lane.on(Pages.some(), Integer.MAX_VALUE), NONE);
        due.is("in the last one of seven weeks", Pages.full().bar(21, 6, 1), 997);
        due.is("behind seven weeks", Pages.full().bar(21, 7, 1), NONE);
    }

    private static void promise16Shown() {
        some("shown(n, 0)", (x, n) -> x.shown(n, 0), 3, 0, 24, NONE);
        some("shown(8, n)", (x, n) -> x.shown(8, n), 0, 0, 11, NONE);
        due.is("the last row of the page", Pages.some().shown(9, 1), 3);
        due.is("the row behind it", Pages.some().shown(9, 2), NONE);
    }

    private static void promises17And18RowOfAndDay() {
        some("rowOf(n, 8)", (x, n) -> x.rowOf(n, 8), 0, 0, 4, NONE);
        some("rowOf(0, n)", (x, n) -> x.rowOf(0, n), 3, 0, 24, NONE);
        some("day(n, 0)", (x, n) -> x.day(n, 0), 3, 0, 24, 3);
        some("day(8, n)", (x, n) -> x.day(8, n), 0, 0, 5, 4);
    }

    private static void promises20And21IfRowsAndFree() {
        some("ifRows(n)", (x, n) -> x.ifRows(n), 1, 9, 12, 0);
        some("free(n, false)", (x, n) -> x.free(n, false), 1, 13, 42, NONE);
        some("free(n, true)", (x, n) -> x.free(n, true), 1, 13, 42, NONE);
    }

    private static void promises22And23BestDayAndTold() {
        some("bestDay(n)", (x, n) -> x.bestDay(n), 0, 9, 4, 24);
        some("told(n)", (x, n) -> x.told(n), 0, 3, 11, 4);
    }

    private static void entriesOfFullAndEmptyPages() {
        Call[] calls = {(x, e) -> x.drop(e), (x, e) -> x.move(e, 0), (x, e) -> x.stretch(e, 999),
            (x, e) -> x.settle(e, 5, 5), (x, e) -> x.entry(e, 0), (x, e) -> x.bar(e, 0, 0),
            (x, e) -> x.bestDay(e)};
        for (int k = 0; k < calls.length; k++) {
            for (int e = -1; e <= 1; e++) {
                bad("call " + k + " on a new object", MonthPage::new, calls[k], e);
            }
            bad("call " + k + " on a full page", Pages::full, calls[k], 24);
        }
        bad("rowOf on a new object", MonthPage::new, (x, e) -> x.rowOf(e, 5), 0);
        bad("rowOf on a full page", Pages::full, (x, e) -> x.rowOf(e, 999), 24);
        due.is("drop the last one of 24", Pages.full().drop(23), 23);
        due.is("move the last one of 24", Pages.full().move(23, -999), 0);
        due.is("stretch the last one of 24", Pages.full().stretch(23, 999), 1);
        due.is("settle the last one of 24", Pages.full().settle(23, NONE, 0), 1);
        due.is("entry, the last one of 24", Pages.full().entry(23, 0), 999);
        due.is("rowOf the last one of 24", Pages.full().rowOf(23, 999) >= 0 ? 1 : 0, 1);
    }
}
