/** Promises 1 to 5: a new object, setPage, setWeek, setRows, week. */
public final class PageTest {
    private static final int NONE = MonthPage.NONE;
    private static final Due due = new Due();

    public static void main(String[] args) {
        promise1NewObject();
        promise2SetPage();
        promise2FaultsChangeNothing();
        promise3SetWeek();
        promise4SetRows();
        promise5WeekDays();
        promise5WeekCounts();
        due.end();
    }

    private static long[] told(MonthPage x) {
        long[] all = new long[12];
        for (int what = 0; what < 12; what++) {
            all[what] = x.told(what);
        }
        return all;
    }

    private static long[] firstDays(MonthPage x) {
        long[] all = new long[x.told(4)];
        for (int week = 0; week < all.length; week++) {
            all[week] = x.week(week, 0);
        }
        return all;
    }

    private static long[] lastDays(MonthPage x) {
        long[] all = new long[x.told(4)];
        for (int week = 0; week < all.length; week++) {
            all[week] = x.week(week, 1);
        }
        return all;
    }

    private static void promise1NewObject() {
        MonthPage x = new MonthPage();
        due.are("new", told(x), 0, 30, 0, 4, 5, 0, 0, 0, 0, 0, 0, 0);
        due.are("new: first days", firstDays(x), 0, 7, 14, 21, 28);
        due.are("new: last days", lastDays(x), 6, 13, 20, 27, 30);
        due.is("new: undo", x.undo(), MonthPage.STATE);
        due.is("new: clear", x.clear(), 0);
        due.is("new: load", x.load(), 0);
        MonthPage y = new MonthPage();
        y.add(0, 3, NONE, 0);
        due.is("another object", new MonthPage().told(5), 0);
    }

    private static void promise2SetPage() {
        MonthPage x = new MonthPage();
        due.is("setPage(31, 58)", x.setPage(31, 58), 5);
        due.are("31..58", firstDays(x), 31, 35, 42, 49, 56);
        due.is("setPage(0, 0)", x.setPage(0, 0), 1);
        due.is("setPage(0, 41)", x.setPage(0, 41), 6);
        due.is("setPage(1, 42)", x.setPage(1, 42), 7);
        due.is("setPage(6, 47)", x.setPage(6, 47), 7);
        due.are("6..47", firstDays(x), 6, 7, 14, 21, 28, 35, 42);
        due.is("setPage(999, 999)", x.setPage(999, 999), 1);
        due.is("setPage(958, 999)", x.setPage(958, 999), 7);
        due.is("a change", x.told(11), 7);
        due.is("the same again", x.setPage(958, 999), 7);
        due.is("also a change", x.told(11), 8);
        x.undo();
        x.undo();
        due.is("undone: first", x.told(0), 999);
        due.is("undone: last", x.told(1), 999);
    }

    private static void promise2FaultsChangeNothing() {
        MonthPage x = new MonthPage();
        int[][] faults = {{-1, 5}, {5, 4}, {0, 42}, {958, 1000}, {1000, 1000}, {999, 1000}, {-1, -1},
            {Integer.MIN_VALUE, Integer.MAX_VALUE}, {0, Integer.MAX_VALUE}, {Integer.MAX_VALUE, Integer.MIN_VALUE},
            {0, Integer.MIN_VALUE}};
        for (int[] f : faults) {
            due.is("setPage(" + f[0] + ", " + f[1] + ")", x.setPage(f[0], f[1]), MonthPage.BAD);
        }
        due.are("nothing changed", told(x), 0, 30, 0, 4, 5, 0, 0, 0, 0, 0, 0, 0);
    }

    private static void promise3SetWeek() {
        MonthPage x = new MonthPage();
        due.is("setWeek(1)", x.setWeek(1), 6);
        due.are("from Tuesday", firstDays(x), 0, 1, 8, 15, 22, 29);
        due.are("from Tuesday", lastDays(x), 0, 7, 14, 21, 28, 30);
        due.is("setWeek(6)", x.setWeek(6), 5);
        due.are("from Sunday", firstDays(x), 0, 6, 13, 20, 27);
        due.is("weekday of day 6", x.day(6, 1), 6);
        due.is("setWeek(3)", x.setWeek(3), 5);
        due.is("setWeek(0)", x.setWeek(0), 5);
        due.is("setWeek(-1)", x.setWeek(-1), MonthPage.BAD);
        due.is("setWeek(7)", x.setWeek(7), MonthPage.BAD);
        due.is("four changes", x.told(11), 4);
        x.undo();
        due.is("undone", x.told(2), 3);
        x.add(5, 8, NONE, 0);
        x.setWeek(0);
        due.is("bars are cut anew", x.bar(0, 0, 2), 6);
        x.setWeek(6);
        due.is("bars are cut anew", x.bar(0, 0, 2), 5);
    }

    private static void promise4SetRows() {
        MonthPage x = new MonthPage();
        x.add(3, 3, 60, 0);
        x.add(3, 3, 61, 0);
        due.is("setRows(1)", x.setRows(1), 4);
        due.is("all hidden", x.shown(3, 0), -12);
        due.is("setRows(12)", x.setRows(12), 1);
        due.is("none hidden", x.told(9), 0);
        due.is("setRows(12)", x.setRows(12), 12);
        due.is("setRows(0)", x.setRows(0), MonthPage.BAD);
        due.is("setRows(13)", x.setRows(13), MonthPage.BAD);
        due.is("setRows(-9)", x.setRows(-9), MonthPage.BAD);
        due.is("changes", x.told(11), 5);
        x.undo();
        x.undo();
        due.is("undone", x.told(3), 1);
        due.is("undone: hidden", x.told(9), 2);
    }

    private static void promise5WeekDays() {
        MonthPage x = new MonthPage();
        due.is("week(5, 0)", x.week(5, 0), NONE);
        due.is("week(5, 6)", x.week(5, 6), MonthPage.BAD);
        due.is("week(0, -1)", x.week(0, -1), MonthPage.BAD);
        due.is("week(-1, 0)", x.week(-1, 0), MonthPage.BAD);
        due.is("week(MAX, 0)", x.week(Integer.MAX_VALUE, 0), NONE);
        due.is("week(MIN, 0)", x.week(Integer.MIN_VALUE, 0), MonthPage.BAD);
        x.setPage(12, 14);
        due.are("12..14", firstDays(x), 12, 14);
        due.are("12..14", lastDays(x), 13, 14);
    }

    private static void promise5WeekCounts() {
        MonthPage x = new MonthPage();
        x.add(0, 8, NONE, 0);
        x.add(6, 9, NONE, 0);
        x.add(5, 5, NONE, 0);
        x.add(9, 9, 0, 0);
        x.add(9, 9, 0, 0);
        x.add(31, 31, 0, 0);
        x.add(12, 12, 5, 0);
        due.is("bars 0", x.week(0, 2), 3);
        due.is("bars 1", x.week(1, 2), 2);
        due.is("bars 2", x.week(2, 2), 0);
        due.is("lanes 0", x.week(0, 3), 2);
        due.is("lanes 1", x.week(1, 3), 2);
        due.is("lanes 2", x.week(2, 3), 0);
        due.is("short 0", x.week(0, 4), 0);
        due.is("short 1", x.week(1, 4), 3);
        due.is("short 4", x.week(4, 4), 0);
        MonthPage y = new MonthPage();
        y.add(3, 3, 0, 0);
        due.is("entry 0 is short", y.week(0, 4), 1);
        x.setRows(2);
        due.is("hidden 0", x.week(0, 5), 0);
        due.is("hidden 1", x.week(1, 5), 2);
        x.setRows(1);
        due.is("hidden 0", x.week(0, 5), 4);
        due.is("hidden 1", x.week(1, 5), 7);
        x.drop(0);
        due.is("a lane kept with none above it", x.week(1, 3), 1);
    }
}
