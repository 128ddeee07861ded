import java.util.function.Supplier;

/** Refused calls: which code comes first, that nothing changes, and NONE only where no code applies. */
public final class RefusedTest {
    private static final int NONE = MonthPage.NONE;
    private static final int BAD = MonthPage.BAD;
    private static final int STATE = MonthPage.STATE;
    private static final int FULL = MonthPage.FULL;
    private static final Due due = new Due();

    public static void main(String[] args) {
        badComesBeforeFull();
        badComesBeforeState();
        stateAlone();
        fullAlone();
        badComesBeforeNone();
        noneWhereNoCodeApplies();
        faultsOfTextsChangeNothing();
        theMarkIsOnlyAnAnswer();
        whatIsNoChangeIsNotRecorded();
        typeAndClearAreNoChanges();
        changesAreRecordedAlsoIfAllIsAsBefore();
        undoOfNothing();
        due.end();
    }

    private static void full(Refusal.Call call, String name, int want) {
        Refusal.unchanged(due, name, Pages::full, call, want);
    }

    private static void some(Refusal.Call call, String name, int want) {
        Refusal.unchanged(due, name, Pages::some, call, want);
    }

    private static void badComesBeforeFull() {
        full(x -> x.type(32), "a full text: type(32)", BAD);
        full(x -> x.type(127), "a full text: type(127)", BAD);
        full(x -> x.type(-3), "a full text: type(-3)", BAD);
        full(x -> x.add(-1, 5, 5, 5), "24 entries: the first day", BAD);
        full(x -> x.add(1000, 1000, 5, 5), "24 entries: the first day", BAD);
        full(x -> x.add(5, 4, 5, 5), "24 entries: the last day", BAD);
        full(x -> x.add(5, 1000, 5, 5), "24 entries: the last day", BAD);
        full(x -> x.add(5, 5, 1440, 5), "24 entries: the time", BAD);
        full(x -> x.add(5, 5, -1, 5), "24 entries: the time", BAD);
        full(x -> x.add(5, 5, 5, 10), "24 entries: the rank", BAD);
        full(x -> x.add(5, 5, 5, -1), "24 entries: the rank", BAD);
    }

    private static void badComesBeforeState() {
        some(x -> x.move(0, -1000), "move before day 0, and too far", BAD);
        some(x -> x.move(0, 1000), "move behind day 999, and too far", BAD);
        some(x -> x.move(5, -999), "move before day 0, no such entry", BAD);
        some(x -> x.move(-1, 999), "move behind day 999, no such entry", BAD);
        some(x -> x.move(0, Integer.MIN_VALUE), "move as far as can be", BAD);
        some(x -> x.move(4, Integer.MAX_VALUE), "move as far as can be", BAD);
        some(x -> x.stretch(4, -1), "stretch to a day before the first one, below 0", BAD);
        some(x -> x.stretch(4, Integer.MIN_VALUE), "stretch as far back as can be", BAD);
        some(x -> x.stretch(5, 0), "stretch of no entry", BAD);
    }

    private static void stateAlone() {
        some(x -> x.move(0, -1), "its first day would be -1", STATE);
        some(x -> x.move(0, -999), "its first day would be -999", STATE);
        some(x -> x.move(0, 991), "its last day would be 1000", STATE);
        some(x -> x.move(4, 999), "both would be behind", STATE);
        some(x -> x.stretch(4, 49), "a day before its first one", STATE);
        some(x -> x.stretch(4, 0), "far before its first one", STATE);
    }

    private static void fullAlone() {
        full(x -> x.type(33), "a full text: type(33)", FULL);
        full(x -> x.type(126), "a full text: type(126)", FULL);
        full(x -> x.add(0, 0, 0, 0), "24 entries: a 25th", FULL);
        full(x -> x.add(0, 999, NONE, 9), "24 entries: a 25th", FULL);
        full(x -> x.add(999, 999, 1439, 9), "24 entries: a 25th", FULL);
    }

    private static void badComesBeforeNone() {
        some(x -> x.week(4, 6), "no such week, and no such number", BAD);
        some(x -> x.week(4, -1), "no such week, and no such number", BAD);
        some(x -> x.week(Integer.MAX_VALUE, NONE), "no such week, and no such number", BAD);
        some(x -> x.bar(5, 4, 0), "no such week, and no such entry", BAD);
        some(x -> x.bar(-1, 3, 0), "no bar, and no such entry", BAD);
        some(x -> x.bar(0, 4, 5), "no such week, and no such number", BAD);
        some(x -> x.bar(0, 3, -1), "no bar, and no such number", BAD);
        some(x -> x.bar(4, -1, 0), "no bar, and a week below 0", BAD);
        some(x -> x.shown(25, 5), "no such row on the page, and no such day", BAD);
        some(x -> x.shown(2, 11), "no such row on the page, and no such day", BAD);
        some(x -> x.shown(8, 12), "no row of any page", BAD);
        some(x -> x.shown(20, -1), "nothing there, and a row below 0", BAD);
        some(x -> x.rowOf(4, 50), "on this day, but the day is not on the page", BAD);
        some(x -> x.rowOf(4, 2), "not on this day, and the day is not on the page", BAD);
        some(x -> x.rowOf(5, 20), "no such entry, and nothing there", BAD);
        Refusal.unchanged(due, "a full page, no days", Pages::small, x -> x.free(0, false), BAD);
        Refusal.unchanged(due, "a full page, 43 days", Pages::small, x -> x.free(43, true), BAD);
        Refusal.unchanged(due, "no day for it, no such entry", Pages::small, x -> x.bestDay(3), BAD);
    }

    private static void noneWhereNoCodeApplies() {
        some(x -> x.week(4, 5), "no such week", NONE);
        some(x -> x.entry(0, 2), "no time", NONE);
        some(x -> x.bar(0, 2, 4), "no bar in this week", NONE);
        some(x -> x.bar(0, 4, 4), "no such week", NONE);
        some(x -> x.bar(1, 0, 0), "a short one has no bar", NONE);
        some(x -> x.bar(4, 3, 0), "off the page there is no bar", NONE);
        some(x -> x.shown(3, 1), "nothing in this row", NONE);
        some(x -> x.shown(8, 2), "no such row on the page", NONE);
        some(x -> x.rowOf(0, 10), "the entry is over", NONE);
        some(x -> x.rowOf(3, 7), "the entry has not begun", NONE);
        some(x -> x.free(13, false), "too few days", NONE);
        some(x -> x.free(8, true), "more than a week", NONE);
        Refusal.unchanged(due, "a full page", Pages::small, x -> x.free(1, false), NONE);
        Refusal.unchanged(due, "no day for it", Pages::small, x -> x.bestDay(2), NONE);
    }

    private static void faultsOfTextsChangeNothing() {
        String[] texts = {"x", ";", "5", "5;6", "5;9-8;", "5@24:00;", "5@23:60;", "5!;", "0005;", "5;;"};
        int[] faults = {0, 0, 1, 3, 4, 3, 6, 2, 3, 2};
        for (int k = 0; k < texts.length; k++) {
            String text = texts[k];
            Supplier<MonthPage> make = () -> {
                MonthPage x = Pages.some();
                Pages.write(x, text);
                return x;
            };
            Refusal.unchanged(due, "load of " + text, make, x -> x.load(), -10 - faults[k]);
        }
        some(x -> x.load(), "load at the text's end", -15);
        full(x -> x.load(), "load of a 25th entry", -58);
    }

    private static void theMarkIsOnlyAnAnswer() {
        some(x -> x.shown(8, 1), "the mark tells of three", -13);
        Refusal.unchanged(due, "the mark of one row", Pages::small, x -> x.shown(999, 0), -13);
    }

    private static void whatIsNoChangeIsNotRecorded() {
        some(x -> x.week(0, 5), "week", 3);
        some(x -> x.entry(3, 6), "entry", 1);
        some(x -> x.bar(3, 0, 1), "bar", 8);
        some(x -> x.shown(8, 0), "shown", 0);
        some(x -> x.rowOf(2, 8), "rowOf", 3);
        some(x -> x.day(8, 4), "day", 3);
        some(x -> x.enough(), "enough", 4);
        some(x -> x.ifRows(1), "ifRows", 9);
        some(x -> x.free(1, false), "free", 13);
        some(x -> x.bestDay(0), "bestDay", 9);
        some(x -> x.told(9), "told", 3);
        some(x -> x.digest() == Pages.some().digest() ? 1 : 0, "digest", 1);
        full(x -> x.bestDay(0), "bestDay on a full page", Pages.full().bestDay(0));
    }

    private static void typeAndClearAreNoChanges() {
        MonthPage x = Pages.some();
        due.is("clear", x.clear(), 5);
        due.is("type", x.type('7'), 1);
        due.is("type", x.type(';'), 2);
        due.is("no state is recorded", x.told(11), 4);
        due.is("undo", x.undo(), 3);
        due.is("goes back to before the load", x.told(5), 0);
        due.is("the text stays", x.told(10), 2);
        due.is("as it was", x.load(), 1);
        due.is("and is read", x.entry(0, 0), 7);
    }

    /** The call answers this, is recorded, and is undone by one undo. */
    private static void recorded(String name, Refusal.Call call, int want) {
        MonthPage x = Pages.some();
        long before = x.digest();
        due.is(name, call.on(x), want);
        due.is(name + " is recorded", x.told(11), 5);
        due.is(name + " undone", x.undo(), 4);
        due.is(name + ": all is as before", x.digest(), before);
    }

    private static void changesAreRecordedAlsoIfAllIsAsBefore() {
        recorded("the same page", x -> x.setPage(3, 24), 4);
        recorded("the same weekday", x -> x.setWeek(2), 4);
        recorded("the same rows", x -> x.setRows(2), 2);
        recorded("a move by no days", x -> x.move(0, 0), 0);
        recorded("a stretch to the same day", x -> x.stretch(0, 9), 10);
        recorded("the same time and rank", x -> x.settle(3, 600, 9), 1);
        recorded("another page", x -> x.setPage(4, 4), 1);
        recorded("another weekday", x -> x.setWeek(3), 4);
        recorded("other rows", x -> x.setRows(12), 2);
        recorded("one more", x -> x.add(8, 8, 0, 9), 5);
        recorded("one less", x -> x.drop(0), 4);
        recorded("a move", x -> x.move(1, 1), 9);
        recorded("a stretch", x -> x.stretch(1, 24), 17);
        recorded("another time", x -> x.settle(1, NONE, 0), 1);
        MonthPage empty = new MonthPage();
        due.is("the empty text, no entries", empty.load(), 0);
        due.is("is recorded", empty.told(11), 1);
        due.is("undone", empty.undo(), 0);
    }

    private static void undoOfNothing() {
        Refusal.unchanged(due, "undo of a new object", MonthPage::new, x -> x.undo(), STATE);
        Supplier<MonthPage> undone = () -> {
            MonthPage x = Pages.some();
            for (int n = 0; n < 4; n++) {
                x.undo();
            }
            return x;
        };
        Refusal.unchanged(due, "one undo too many", undone, x -> x.undo(), STATE);
        due.is("then a change can be undone", undone.get().setRows(1), 4);
    }
}
