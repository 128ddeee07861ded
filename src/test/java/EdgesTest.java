/** What the document says of entries, bars, stacks and marks: its edges, a sentence each. */
public final class EdgesTest {
    private static final int NONE = MonthPage.NONE;
    private static final Due due = new Due();

    public static void main(String[] args) {
        longOrShort();
        aBarIsCutWhereAWeekEnds();
        aBarIsCutWhereThePageEnds();
        openEnds();
        beganBeforeTheWeek();
        inWeek0ByNumbers();
        byFirstDays();
        byLengths();
        byRanks();
        byNumbers();
        byLanesInTheWeekBefore();
        aDayInCommon();
        theLaneOfTheWeekBefore();
        theStackBelowBars();
        ranksThenTimesThenNumbers();
        lanesBelowTheRowsOfThePage();
        allRowsFull();
        theRowOfTheMark();
        hiddenOnSomeDays();
        enoughAtItsEdges();
        freeAtItsEdges();
        freeInAWeek();
        bestDayNearest();
        bestDayAtTheEndOfAllDays();
        bestDayOffThePage();
        due.end();
    }

    private static void lanes(MonthPage x, String name, int week, int... want) {
        for (int e = 0; e < want.length; e++) {
            due.is(name + ": lane of " + e, x.bar(e, week, 0), want[e]);
        }
    }

    private static void rows(MonthPage x, String name, int day, int... want) {
        for (int e = 0; e < want.length; e++) {
            due.is(name + ": row of " + e, x.rowOf(e, day), want[e]);
        }
    }

    private static void bars(MonthPage x, int e, int[]... want) {
        for (int week = 0; week < want.length; week++) {
            for (int what = 1; what <= 4; what++) {
                due.is("bar(" + e + ", " + week + ", " + what + ")", x.bar(e, week, what), want[week][what - 1]);
            }
        }
    }

    private static final int[] NO_BAR = {NONE, NONE, NONE, NONE};

    private static void longOrShort() {
        MonthPage x = Pages.one(5, 5, 0, 0);
        due.is("one day and a time", x.entry(0, 4), 0);
        due.is("no long one", x.told(6), 0);
        due.is("another day", x.stretch(0, 6), 2);
        due.is("is long then, with its time", x.entry(0, 4) * 10 + x.entry(0, 2), 10);
        due.is("a long one", x.told(6), 1);
        due.is("not a short one of its week", x.week(0, 4), 0);
        due.is("no time", x.settle(0, NONE, 0), 1);
        due.is("one day", x.stretch(0, 5), 1);
        due.is("is long still", x.entry(0, 4), 1);
        due.is("a time", x.settle(0, 1439, 0), 0);
        due.is("no bar then", x.entry(0, 7), 0);
        due.is("a short one of its week", x.week(0, 4), 1);
    }

    private static void aBarIsCutWhereAWeekEnds() {
        MonthPage x = new MonthPage();
        x.add(6, 7, NONE, 0);
        bars(x, 0, new int[] {6, 6, 0, 1}, new int[] {7, 7, 1, 0}, NO_BAR);
        x.add(7, 13, NONE, 0);
        bars(x, 1, NO_BAR, new int[] {7, 13, 0, 0}, NO_BAR);
        x.add(6, 14, NONE, 0);
        bars(x, 2, new int[] {6, 6, 0, 1}, new int[] {7, 13, 1, 1}, new int[] {14, 14, 1, 0}, NO_BAR);
        due.is("bars of the page", x.told(8), 6);
    }

    private static void aBarIsCutWhereThePageEnds() {
        MonthPage x = new MonthPage();
        x.setPage(10, 18);
        x.add(9, 19, NONE, 0);
        x.add(10, 18, NONE, 0);
        x.add(11, 17, NONE, 0);
        bars(x, 0, new int[] {10, 13, 1, 1}, new int[] {14, 18, 1, 1}, NO_BAR);
        bars(x, 1, new int[] {10, 13, 0, 1}, new int[] {14, 18, 1, 0}, NO_BAR);
        bars(x, 2, new int[] {11, 13, 0, 1}, new int[] {14, 17, 1, 0}, NO_BAR);
        due.is("days on the page", x.entry(0, 5), 9);
        due.is("days on the page", x.entry(1, 5), 9);
        due.is("days on the page", x.entry(2, 5), 7);
    }

    private static void openEnds() {
        MonthPage x = new MonthPage();
        x.setPage(7, 13);
        x.add(7, 13, NONE, 0);
        x.add(6, 13, NONE, 0);
        x.add(7, 14, NONE, 0);
        x.add(6, 14, NONE, 0);
        bars(x, 0, new int[] {7, 13, 0, 0});
        bars(x, 1, new int[] {7, 13, 1, 0});
        bars(x, 2, new int[] {7, 13, 0, 1});
        bars(x, 3, new int[] {7, 13, 1, 1});
    }

    /** An entry that begins on the first day of a week did not begin before it. */
    private static void beganBeforeTheWeek() {
        MonthPage x = new MonthPage();
        x.add(7, 20, NONE, 9);
        x.add(6, 7, NONE, 0);
        lanes(x, "begun on Sunday", 1, 1, 0);
        x.move(1, 1);
        lanes(x, "begun on Monday", 1, 0, 1);
    }

    private static void inWeek0ByNumbers() {
        MonthPage x = new MonthPage();
        x.setPage(10, 30);
        x.add(9, 12, NONE, 0);
        x.add(0, 20, NONE, 9);
        x.add(5, 30, NONE, 9);
        lanes(x, "by numbers alone", 0, 0, 1, 2);
        x.add(9, 30, NONE, 9);
        x.drop(0);
        lanes(x, "by the numbers then", 0, 0, 1, 2);
    }

    private static void byFirstDays() {
        MonthPage x = new MonthPage();
        x.add(3, 6, NONE, 9);
        x.add(2, 3, NONE, 0);
        lanes(x, "the earlier first day", 0, 1, 0);
        x.move(1, 1);
        lanes(x, "the same first day, less long", 0, 0, 1);
    }

    private static void byLengths() {
        MonthPage x = new MonthPage();
        x.add(5, 12, NONE, 9);
        x.add(5, 13, NONE, 0);
        lanes(x, "the greater length, also behind the week", 0, 1, 0);
        x.stretch(1, 12);
        lanes(x, "the same length, a less rank", 0, 0, 1);
        x.stretch(1, 5);
        lanes(x, "less long", 0, 0, 1);
    }

    private static void byRanks() {
        MonthPage x = new MonthPage();
        x.add(5, 6, NONE, 3);
        x.add(5, 6, NONE, 4);
        lanes(x, "the greater rank", 0, 1, 0);
        x.settle(1, NONE, 3);
        lanes(x, "the same rank", 0, 0, 1);
        x.settle(1, 5, 3);
        lanes(x, "a time does not matter", 0, 0, 1);
        x.settle(0, 9, 2);
        lanes(x, "but the rank does", 0, 1, 0);
    }

    private static void byNumbers() {
        MonthPage x = new MonthPage();
        for (int n = 0; n < 4; n++) {
            x.add(5, 6, NONE, 3);
        }
        lanes(x, "numbers", 0, 0, 1, 2, 3);
        x.drop(1);
        lanes(x, "numbers then", 0, 0, 1, 2);
    }

    private static void byLanesInTheWeekBefore() {
        MonthPage x = new MonthPage();
        x.add(6, 8, NONE, 0);
        x.add(5, 8, NONE, 0);
        x.add(4, 8, NONE, 0);
        lanes(x, "week 0", 0, 2, 1, 0);
        lanes(x, "week 1 as week 0", 1, 2, 1, 0);
        x.add(7, 9, NONE, 9);
        lanes(x, "others come behind", 1, 2, 1, 0, 3);
    }

    private static void aDayInCommon() {
        MonthPage x = new MonthPage();
        x.add(1, 2, NONE, 0);
        x.add(3, 4, NONE, 0);
        lanes(x, "no day in common", 0, 0, 0);
        due.is("lanes used", x.week(0, 3), 1);
        x.stretch(0, 3);
        lanes(x, "one day in common", 0, 0, 1);
        due.is("lanes used", x.week(0, 3), 2);
        x.add(4, 4, NONE, 0);
        lanes(x, "the smallest one that is free", 0, 0, 1, 0);
        x.add(2, 2, NONE, 0);
        lanes(x, "between two bars", 0, 0, 1, 0, 1);
    }

    private static void theLaneOfTheWeekBefore() {
        MonthPage x = new MonthPage();
        x.add(5, 6, NONE, 0);
        x.add(6, 22, NONE, 0);
        lanes(x, "week 0", 0, 0, 1);
        for (int week = 1; week <= 3; week++) {
            due.is("its lane stays, also alone", x.bar(1, week, 0), 1);
            due.is("lanes up to the greatest one", x.week(week, 3), 2);
        }
        x.add(7, 7, NONE, 9);
        due.is("another one comes into lane 0", x.bar(2, 1, 0), 0);
        x.setPage(7, 30);
        due.is("where no week is before, it comes into lane 0", x.bar(1, 0, 0), 0);
    }

    private static void theStackBelowBars() {
        MonthPage x = new MonthPage();
        x.add(1, 3, NONE, 0);
        x.add(1, 3, NONE, 0);
        x.add(1, 4, NONE, 0);
        x.add(4, 4, 5, 0);
        x.add(4, 4, 6, 0);
        x.add(3, 3, 7, 0);
        rows(x, "day 3", 3, 1, 2, 0, NONE, NONE, 3);
        rows(x, "day 4", 4, NONE, NONE, 0, 1, 2, NONE);
        MonthPage y = new MonthPage();
        y.add(1, 2, NONE, 0);
        y.add(2, 5, NONE, 0);
        y.add(5, 5, 5, 0);
        y.add(5, 5, 6, 0);
        rows(y, "a row above a bar, then below it", 5, NONE, 1, 0, 2);
    }

    private static void ranksThenTimesThenNumbers() {
        MonthPage x = new MonthPage();
        x.add(5, 5, 0, 8);
        x.add(5, 5, 1439, 9);
        rows(x, "the greater rank, though late", 5, 1, 0);
        x.settle(0, 0, 9);
        rows(x, "the earlier time", 5, 0, 1);
        x.settle(0, 1439, 9);
        rows(x, "the smaller number", 5, 0, 1);
        x.settle(1, 1438, 9);
        rows(x, "the earlier time", 5, 1, 0);
    }

    /** Lanes are kept free though there be fewer rows. */
    private static void lanesBelowTheRowsOfThePage() {
        MonthPage x = new MonthPage();
        x.add(5, 6, NONE, 0);
        x.add(5, 6, NONE, 0);
        x.add(6, 6, 5, 0);
        x.setRows(1);
        rows(x, "with one row", 6, 0, 1, 2);
        MonthPage y = new MonthPage();
        y.setRows(1);
        y.add(4, 4, NONE, 0);
        y.add(4, 8, NONE, 0);
        y.add(7, 7, 5, 0);
        y.add(7, 7, 6, 0);
        y.drop(0);
        y.add(3, 6, NONE, 0);
        rows(y, "with one row, a lane that stays", 7, 1, 0, 2, NONE);
    }

    private static void allRowsFull() {
        MonthPage x = new MonthPage();
        for (int n = 0; n < 4; n++) {
            x.add(5, 5, n, 0);
        }
        due.is("four rows, four entries", x.day(5, 4), 0);
        due.is("the last row shows one", x.shown(5, 3), 3);
        x.add(5, 5, 4, 0);
        due.is("five entries", x.day(5, 4), 2);
        due.is("the last row is the mark", x.shown(5, 3), -12);
        x.setRows(5);
        due.is("five rows", x.day(5, 4), 0);
        x.setRows(3);
        due.is("three rows", x.day(5, 4), 3);
    }

    private static void theRowOfTheMark() {
        MonthPage x = new MonthPage();
        x.setRows(3);
        for (int n = 0; n < 5; n++) {
            x.add(5, 5, n, 0);
        }
        int[] hidden = {0, 0, 1, 1, 1};
        int[] shown = {0, 1, -13, NONE, NONE};
        for (int n = 0; n < 5; n++) {
            due.is("hidden", x.entry(n, 6), hidden[n]);
            due.is("shown", x.shown(5, n), shown[n]);
            due.is("a row whether hidden or not", x.rowOf(n, 5), n);
        }
        MonthPage y = new MonthPage();
        y.setRows(2);
        y.add(1, 2, NONE, 0);
        y.add(1, 2, NONE, 0);
        y.add(2, 5, NONE, 0);
        due.is("a mark with nothing above it", y.shown(4, 1), -11);
        due.is("nothing above it", y.shown(4, 0), NONE);
        y.add(4, 4, 5, 0);
        due.is("the mark tells of the bar alone", y.shown(4, 1), -11);
        due.is("a short one above it", y.shown(4, 0), 3);
        y.add(4, 4, 6, 0);
        due.is("one in its row", y.shown(4, 1), -12);
        due.is("hidden", y.entry(4, 6), 1);
    }

    private static void hiddenOnSomeDays() {
        MonthPage x = new MonthPage();
        x.setRows(2);
        x.add(2, 8, NONE, 0);
        x.add(3, 8, NONE, 0);
        x.add(5, 5, 5, 0);
        x.add(8, 8, 5, 0);
        due.is("a bar hidden on two days", x.entry(1, 6), 2);
        due.is("the one above it never", x.entry(0, 6), 0);
        due.is("shown", x.shown(4, 1), 1);
        due.is("hidden", x.shown(5, 1), -12);
        due.is("of the week", x.week(0, 5), 2);
        due.is("of the next week", x.week(1, 5), 2);
        due.is("of the page", x.told(9), 4);
        x.setPage(6, 8);
        due.is("only days of the page", x.entry(1, 6), 1);
    }

    private static void enoughAtItsEdges() {
        MonthPage x = new MonthPage();
        x.setPage(5, 7);
        x.add(4, 4, 5, 0);
        x.add(4, 4, 5, 0);
        x.add(8, 8, 5, 0);
        x.add(8, 8, 5, 0);
        due.is("next to the page", x.enough(), 1);
        x.move(0, 1);
        x.move(1, 1);
        due.is("on its first day", x.enough(), 2);
        x.move(0, 2);
        x.move(1, 2);
        due.is("on its last day", x.enough(), 2);
        due.is("with as many rows nothing is hidden", x.ifRows(2), 0);
        due.is("with one less", x.ifRows(1), 2);
    }

    private static void freeAtItsEdges() {
        MonthPage x = new MonthPage();
        x.setPage(10, 20);
        due.is("the whole page", x.free(11, false), 10);
        due.is("a day more", x.free(12, false), NONE);
        x.add(15, 15, 5, 0);
        due.is("five before it", x.free(5, false), 10);
        due.is("not six", x.free(6, false), NONE);
        x.move(0, -1);
        due.is("six behind it", x.free(6, false), 15);
        x.move(0, -4);
        due.is("behind the first day", x.free(10, false), 11);
        x.move(0, 10);
        due.is("before the last day", x.free(10, false), 10);
        x.setRows(1);
        x.add(20, 20, 5, 0);
        x.add(10, 19, NONE, 0);
        due.is("hidden ones count", x.free(1, false), NONE);
    }

    private static void freeInAWeek() {
        MonthPage x = new MonthPage();
        x.setPage(4, 22);
        due.is("three days of week 0", x.free(3, true), 4);
        due.is("four days", x.free(4, true), 7);
        due.is("four days, not in one week", x.free(4, false), 4);
        due.is("seven days", x.free(7, true), 7);
        due.is("eight days", x.free(8, true), NONE);
        x.add(7, 7, NONE, 0);
        due.is("six days behind it", x.free(6, true), 8);
        due.is("seven days", x.free(7, true), 14);
        x.setWeek(1);
        due.is("another weekday", x.free(7, true), 8);
        x.setPage(20, 22);
        due.is("the last week alone", x.free(2, true), 20);
        due.is("all three", x.free(3, true), NONE);
        due.is("all three, not in one week", x.free(3, false), 20);
    }

    private static void bestDayNearest() {
        MonthPage x = new MonthPage();
        x.setRows(1);
        x.add(10, 10, 5, 0);
        due.is("where it is", x.bestDay(0), 10);
        x.add(10, 10, 6, 0);
        due.is("of two the earlier one", x.bestDay(0), 9);
        x.add(9, 9, 6, 0);
        due.is("the nearest one", x.bestDay(0), 11);
        x.add(11, 11, 6, 0);
        due.is("of two the earlier one", x.bestDay(0), 8);
        x.add(6, 8, NONE, 0);
        due.is("the nearest one", x.bestDay(0), 12);
        x.setPage(9, 11);
        due.is("all days are as bad: where it is", x.bestDay(0), 10);
        x.setPage(11, 40);
        due.is("the fewest come before the nearest", x.bestDay(0), 12);
        x.setPage(0, 9);
        due.is("also before its day", x.bestDay(0), 5);
    }

    private static void bestDayAtTheEndOfAllDays() {
        MonthPage x = new MonthPage();
        x.setPage(990, 999);
        x.setRows(1);
        x.add(5, 7, NONE, 0);
        x.add(990, 996, NONE, 0);
        due.is("its last day may be 999", x.bestDay(0), 997);
        x.stretch(1, 997);
        due.is("it may not be 1000, though fewer would be hidden", x.bestDay(0), 997);
        x.stretch(0, 14);
        due.is("one day alone is left", x.bestDay(0), 990);
        x.stretch(0, 15);
        due.is("no day is left", x.bestDay(0), NONE);
    }

    private static void bestDayOffThePage() {
        MonthPage x = new MonthPage();
        x.setPage(100, 110);
        x.add(50, 50, 5, 0);
        due.is("before the page", x.bestDay(0), 100);
        x.move(0, 49);
        due.is("on the day before it", x.bestDay(0), 100);
        x.move(0, 12);
        due.is("on the day behind it", x.bestDay(0), 110);
        x.move(0, 800);
        due.is("far behind it", x.bestDay(0), 110);
        x.setRows(1);
        x.add(110, 110, 5, 0);
        due.is("a day is taken", x.bestDay(0), 109);
    }
}
