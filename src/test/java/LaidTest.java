/** Promises 15 to 18: bar, shown, rowOf, day. */
public final class LaidTest {
    private static final int NONE = MonthPage.NONE;
    private static final int BAD = MonthPage.BAD;
    private static final Due due = new Due();

    public static void main(String[] args) {
        promise15OrderOfBars();
        promise15LanesStay();
        promise15Week0ByNumbers();
        promise15CutsAndOpenEnds();
        promise15WrongInputs();
        promise16Shown();
        promise16Mark();
        promise16MarkForALaneTooLow();
        promise17RowOf();
        promise17Stacks();
        promise18Day();
        due.end();
    }

    private static long[] lanes(MonthPage x, int week) {
        long[] all = new long[x.told(5)];
        for (int e = 0; e < all.length; e++) {
            all[e] = x.bar(e, week, 0);
        }
        return all;
    }

    private static long[] rows(MonthPage x, int day) {
        long[] all = new long[x.told(5)];
        for (int e = 0; e < all.length; e++) {
            all[e] = x.rowOf(e, day);
        }
        return all;
    }

    private static void promise15OrderOfBars() {
        MonthPage x = new MonthPage();
        x.add(2, 3, NONE, 0);
        x.add(2, 4, NONE, 0);
        x.add(2, 4, NONE, 5);
        x.add(2, 20, NONE, 0);
        x.add(1, 2, NONE, 0);
        x.add(2, 4, NONE, 5);
        x.add(3, 3, NONE, 9);
        due.are("first days, lengths, ranks, numbers", lanes(x, 0), 5, 4, 2, 1, 0, 3, 0);
        x.move(4, 9);
        due.are("without the earliest", lanes(x, 0), 4, 3, 1, 0, NONE, 2, 5);
        due.are("next week", lanes(x, 1), NONE, NONE, NONE, 0, 1, NONE, NONE);
        MonthPage y = new MonthPage();
        y.add(5, 9, NONE, 9);
        y.add(5, 10, NONE, 0);
        due.are("the length is the entry's, not the bar's", lanes(y, 0), 1, 0);
        MonthPage z = new MonthPage();
        z.add(4, 5, NONE, 0);
        z.add(0, 1, NONE, 0);
        z.add(1, 6, NONE, 0);
        z.add(2, 2, NONE, 0);
        due.are("a lane is used again behind a bar", lanes(z, 0), 0, 0, 1, 0);
    }

    private static void promise15LanesStay() {
        MonthPage x = new MonthPage();
        x.add(0, 1, NONE, 0);
        x.add(1, 8, NONE, 0);
        x.add(8, 20, NONE, 9);
        x.add(7, 7, NONE, 9);
        x.add(9, 9, NONE, 0);
        due.are("week 0", lanes(x, 0), 0, 1, NONE, NONE, NONE);
        due.are("week 1: the lane of week 0", lanes(x, 1), NONE, 1, 0, 0, 1);
        due.is("before, by day", x.rowOf(3, 7), 0);
        due.are("week 2: the lane of week 1", lanes(x, 2), NONE, NONE, 0, NONE, NONE);
        MonthPage y = new MonthPage();
        y.add(0, 6, NONE, 0);
        y.add(0, 6, NONE, 0);
        y.add(3, 25, NONE, 0);
        y.add(7, 25, NONE, 9);
        y.add(2, 12, NONE, 0);
        due.are("week 0", lanes(y, 0), 0, 1, 3, NONE, 2);
        due.are("week 1: by lanes of week 0", lanes(y, 1), NONE, NONE, 3, 0, 2);
        due.are("week 3: still there", lanes(y, 3), NONE, NONE, 3, 0, NONE);
        due.is("lanes of week 3", y.week(3, 3), 4);
    }

    private static void promise15Week0ByNumbers() {
        MonthPage x = new MonthPage();
        x.setPage(10, 30);
        x.add(10, 30, NONE, 9);
        x.add(9, 10, NONE, 0);
        x.add(0, 12, NONE, 9);
        x.add(0, 30, NONE, 9);
        due.are("those that began before the page first, by numbers", lanes(x, 0), 3, 0, 1, 2);
        due.are("and then as they lay", lanes(x, 1), 3, NONE, NONE, 2);
        x.setPage(9, 30);
        due.are("now one begins on the page", lanes(x, 0), 3, 2, 0, 1);
    }

    private static void promise15CutsAndOpenEnds() {
        MonthPage x = new MonthPage();
        x.setPage(3, 24);
        x.add(0, 15, NONE, 0);
        x.add(7, 13, NONE, 0);
        x.add(20, 30, NONE, 0);
        x.add(4, 4, 0, 0);
        int[][] want = {{0, 0, 0, 3, 6, 1, 1}, {0, 1, 0, 7, 13, 1, 1}, {0, 2, 0, 14, 15, 1, 0},
            {1, 1, 1, 7, 13, 0, 0}, {2, 2, 0, 20, 20, 0, 1}, {2, 3, 0, 21, 24, 1, 1}};
        for (int[] w : want) {
            for (int what = 0; what < 5; what++) {
                due.is("bar(" + w[0] + ", " + w[1] + ", " + what + ")", x.bar(w[0], w[1], what), w[what + 2]);
            }
        }
        due.is("no bar in this week", x.bar(0, 3, 0), NONE);
        due.is("no bar in this week", x.bar(1, 0, 1), NONE);
        due.is("a short one has no bar", x.bar(3, 0, 0), NONE);
        x.setPage(3, 20);
        due.is("open at the page's end", x.bar(2, 2, 4), 1);
        x.setPage(20, 24);
        due.is("not open at the page's begin", x.bar(2, 0, 3), 0);
    }

    private static void promise15WrongInputs() {
        MonthPage x = new MonthPage();
        due.is("no entry", x.bar(0, 99, 0), BAD);
        x.add(3, 5, NONE, 0);
        due.is("bar(0, 0, 5)", x.bar(0, 0, 5), BAD);
        due.is("bar(0, 0, -1)", x.bar(0, 0, -1), BAD);
        due.is("bar(0, -1, 0)", x.bar(0, -1, 0), BAD);
        due.is("bar(-1, 0, 0)", x.bar(-1, 0, 0), BAD);
        due.is("bar(1, 0, 0)", x.bar(1, 0, 0), BAD);
        due.is("bar(0, 99, 5)", x.bar(0, 99, 5), BAD);
        due.is("bar(0, 5, 0)", x.bar(0, 5, 0), NONE);
        x.setPage(6, 47);
        x.add(0, 60, NONE, 0);
        due.is("the last one of seven weeks", x.bar(1, 6, 0), 0);
        due.is("an eighth week", x.bar(1, 7, 0), NONE);
        due.is("bar(0, MAX, 0)", x.bar(0, Integer.MAX_VALUE, 0), NONE);
    }

    private static void promise16Shown() {
        MonthPage x = new MonthPage();
        x.add(3, 5, NONE, 0);
        x.add(4, 4, 60, 0);
        due.is("the bar", x.shown(4, 0), 0);
        due.is("the short one", x.shown(4, 1), 1);
        due.is("nothing", x.shown(4, 2), NONE);
        due.is("no such row on the page", x.shown(4, 4), NONE);
        due.is("no such row on the page", x.shown(4, 11), NONE);
        due.is("another day", x.shown(6, 0), NONE);
        due.is("shown(4, 12)", x.shown(4, 12), BAD);
        due.is("shown(4, -1)", x.shown(4, -1), BAD);
        due.is("shown(31, 0)", x.shown(31, 0), BAD);
        due.is("shown(-1, 0)", x.shown(-1, 0), BAD);
        x.setPage(3, 4);
        due.is("shown(2, 0)", x.shown(2, 0), BAD);
        due.is("shown(5, 0)", x.shown(5, 0), BAD);
    }

    private static void promise16Mark() {
        MonthPage x = new MonthPage();
        x.setRows(3);
        x.add(3, 5, NONE, 0);
        x.add(4, 4, 60, 0);
        x.add(4, 4, 61, 0);
        due.is("just full: no mark", x.shown(4, 2), 2);
        due.is("just full: none hidden", x.told(9), 0);
        x.add(4, 4, 62, 0);
        due.is("the mark", x.shown(4, 2), -12);
        due.is("above the mark", x.shown(4, 1), 1);
        due.is("below the mark", x.shown(4, 3), NONE);
        due.is("no mark on other days", x.shown(5, 2), NONE);
        x.setRows(1);
        due.is("one row: all are hidden", x.shown(4, 0), -14);
        due.is("one row: alone it is shown", x.shown(5, 0), 0);
        due.is("so a bar is hidden on some days", x.entry(0, 6), 1);
    }

    private static void promise16MarkForALaneTooLow() {
        MonthPage x = new MonthPage();
        x.setRows(2);
        x.add(0, 4, NONE, 0);
        x.add(0, 4, NONE, 0);
        x.add(3, 9, NONE, 0);
        due.is("its lane", x.bar(2, 1, 0), 2);
        due.is("alone, but below the rows", x.shown(8, 1), -11);
        due.is("nothing above the mark", x.shown(8, 0), NONE);
        x.setRows(3);
        due.is("in the last row, so shown", x.shown(8, 2), 2);
        due.is("and no mark", x.day(8, 4), 0);
    }

    private static void promise17RowOf() {
        MonthPage x = new MonthPage();
        due.is("no entry", x.rowOf(0, 5), BAD);
        x.setRows(1);
        x.add(3, 8, NONE, 0);
        x.add(4, 4, 60, 0);
        x.add(40, 41, NONE, 0);
        due.is("hidden, too", x.rowOf(1, 4), 1);
        due.is("bar", x.rowOf(0, 8), 0);
        due.is("not on this day", x.rowOf(0, 2), NONE);
        due.is("not on this day", x.rowOf(0, 9), NONE);
        due.is("not on this day", x.rowOf(1, 5), NONE);
        due.is("not on the page", x.rowOf(2, 5), NONE);
        due.is("day not on the page", x.rowOf(2, 40), BAD);
        due.is("rowOf(0, -1)", x.rowOf(0, -1), BAD);
        due.is("rowOf(3, 5)", x.rowOf(3, 5), BAD);
        due.is("rowOf(-1, 5)", x.rowOf(-1, 5), BAD);
        x.setPage(4, 6);
        due.is("rowOf(0, 3)", x.rowOf(0, 3), BAD);
        due.is("rowOf(0, 7)", x.rowOf(0, 7), BAD);
    }

    private static void promise17Stacks() {
        MonthPage x = new MonthPage();
        x.add(4, 4, 60, 0);
        x.add(4, 4, 59, 0);
        x.add(4, 4, 900, 1);
        x.add(4, 4, 60, 0);
        x.add(4, 4, 0, 0);
        x.add(4, 4, 901, 1);
        due.are("ranks, times, numbers", rows(x, 4), 4, 3, 0, 5, 2, 1);
    }

    private static void promise18Day() {
        MonthPage x = new MonthPage();
        x.setPage(3, 24);
        x.setRows(2);
        x.add(0, 9, NONE, 0);
        x.add(8, 8, NONE, 0);
        x.add(8, 8, 30, 0);
        x.add(8, 8, 20, 0);
        long[] got = new long[6];
        for (int what = 0; what < 6; what++) {
            got[what] = x.day(8, what);
        }
        due.are("day(8)", got, 1, 1, 2, 2, 3, 4);
        due.is("day(3, 0)", x.day(3, 0), 0);
        due.is("day(6, 0)", x.day(6, 0), 0);
        due.is("day(7, 0)", x.day(7, 0), 1);
        due.is("day(24, 0)", x.day(24, 0), 3);
        due.is("day(24, 1)", x.day(24, 1), 3);
        due.is("day(24, 2)", x.day(24, 2), 0);
        due.is("day(24, 5)", x.day(24, 5), 0);
        due.is("day(9, 4)", x.day(9, 4), 0);
        due.is("day(8, 6)", x.day(8, 6), BAD);
        due.is("day(8, -1)", x.day(8, -1), BAD);
        due.is("day(2, 0)", x.day(2, 0), BAD);
        due.is("day(25, 0)", x.day(25, 0), BAD);
        x.setWeek(5);
        due.is("day(7, 0), weeks from Saturday", x.day(7, 0), 1);
        due.is("day(4, 0), weeks from Saturday", x.day(4, 0), 0);
        due.is("day(8, 1) stays", x.day(8, 1), 1);
    }
}
