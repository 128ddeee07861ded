/** Promises 19 to 22: enough, ifRows, free, bestDay. */
public final class WouldBeTest {
    private static final int NONE = MonthPage.NONE;
    private static final int BAD = MonthPage.BAD;
    private static final Due due = new Due();

    public static void main(String[] args) {
        promise19Enough();
        promise20IfRows();
        promise21Free();
        promise21FreeOnFullPages();
        promise22BestDay();
        promise22BestDayOfEntriesOffThePage();
        promise22BestDayNone();
        promise22NothingChanges();
        due.end();
    }

    private static void promise19Enough() {
        MonthPage x = new MonthPage();
        due.is("without entries", x.enough(), 1);
        x.add(5, 5, 10, 0);
        due.is("one", x.enough(), 1);
        x.add(5, 5, NONE, 0);
        x.add(5, 5, NONE, 0);
        due.is("three", x.enough(), 3);
        for (int n = 0; n < 21; n++) {
            x.add(5, 5, n, 0);
        }
        due.is("24 on a day", x.enough(), 24);
        x.setPage(4, 5);
        due.is("24 on the last day", x.enough(), 24);
        x.setPage(5, 6);
        due.is("24 on the first day", x.enough(), 24);
        x.setPage(6, 7);
        due.is("not on the page", x.enough(), 1);
        due.is("rows stay", x.told(3), 4);
        MonthPage y = new MonthPage();
        y.add(0, 1, NONE, 0);
        y.add(0, 1, NONE, 0);
        y.add(1, 8, NONE, 0);
        y.setPage(1, 8);
        due.is("lanes of week 0 by numbers", y.enough(), 3);
        y.setPage(7, 8);
        due.is("no lane is kept from before the page", y.enough(), 1);
    }

    private static void promise20IfRows() {
        MonthPage x = new MonthPage();
        x.add(3, 5, NONE, 0);
        x.add(4, 8, NONE, 0);
        x.add(4, 4, 10, 0);
        due.is("ifRows(1)", x.ifRows(1), 8);
        due.is("ifRows(2)", x.ifRows(2), 2);
        due.is("ifRows(3)", x.ifRows(3), 0);
        due.is("ifRows(12)", x.ifRows(12), 0);
        due.is("ifRows(0)", x.ifRows(0), BAD);
        due.is("ifRows(13)", x.ifRows(13), BAD);
        due.is("ifRows(-1)", x.ifRows(-1), BAD);
        due.is("rows stay", x.told(3), 4);
        due.is("no change", x.told(11), 3);
    }

    private static void promise21Free() {
        MonthPage x = new MonthPage();
        x.setRows(1);
        x.add(2, 4, NONE, 0);
        x.add(9, 9, 100, 0);
        x.add(9, 9, 101, 0);
        x.add(25, 40, NONE, 0);
        due.is("free(2, false)", x.free(2, false), 0);
        due.is("free(3, false)", x.free(3, false), 5);
        due.is("free(4, false)", x.free(4, false), 5);
        due.is("free(3, true)", x.free(3, true), 10);
        due.is("free(4, true)", x.free(4, true), 10);
        due.is("free(5, true)", x.free(5, true), 14);
        due.is("free(5, false)", x.free(5, false), 10);
        due.is("free(15, false)", x.free(15, false), 10);
        due.is("free(16, false)", x.free(16, false), NONE);
        due.is("free(8, true)", x.free(8, true), NONE);
        due.is("free(42, true)", x.free(42, true), NONE);
        due.is("free(0, false)", x.free(0, false), BAD);
        due.is("free(43, false)", x.free(43, false), BAD);
        due.is("free(-1, true)", x.free(-1, true), BAD);
        due.is("free(MAX, true)", x.free(Integer.MAX_VALUE, true), BAD);
        x.setWeek(5);
        due.is("free(4, true), weeks from Saturday", x.free(4, true), 5);
    }

    private static void promise21FreeOnFullPages() {
        MonthPage x = new MonthPage();
        x.setPage(958, 999);
        due.is("the whole page", x.free(42, false), 958);
        due.is("the whole page in one week", x.free(42, true), NONE);
        due.is("a week", x.free(7, true), 959);
        x.add(0, 999, NONE, 0);
        due.is("a full page", x.free(1, false), NONE);
        x.stretch(0, 998);
        due.is("the last day", x.free(1, true), 999);
        due.is("behind the page is nothing", x.free(2, false), NONE);
    }

    private static void promise22BestDay() {
        MonthPage x = new MonthPage();
        x.setRows(1);
        x.add(10, 10, 5, 0);
        x.add(10, 11, NONE, 0);
        due.is("two days are as near: the earlier one", x.bestDay(0), 9);
        x.add(9, 9, 5, 0);
        due.is("next to it both are taken: 8 and 12 are as near", x.bestDay(0), 8);
        due.is("a bar, behind the others", x.bestDay(1), 11);
        x.setRows(4);
        due.is("where it is, if nothing is hidden", x.bestDay(0), 10);
        x.setRows(1);
        x.setPage(10, 12);
        due.is("days of the page only", x.bestDay(0), 12);
        x.setPage(10, 11);
        due.is("the page's end hides what is behind it", x.bestDay(1), 11);
        MonthPage y = new MonthPage();
        y.setRows(1);
        y.setPage(20, 25);
        y.add(20, 25, NONE, 0);
        y.add(22, 24, NONE, 0);
        due.is("fewest days in common", y.bestDay(1), 25);
    }

    private static void promise22BestDayOfEntriesOffThePage() {
        MonthPage x = new MonthPage();
        x.setPage(20, 30);
        x.add(5, 6, NONE, 0);
        due.is("before the page: nearest is its first day", x.bestDay(0), 20);
        x.move(0, 100);
        due.is("behind the page: nearest is its last day", x.bestDay(0), 30);
        x.move(0, -86);
        due.is("begins before, ends on the page", x.bestDay(0), 20);
        x.setRows(1);
        x.add(20, 20, 3, 3);
        due.is("one day is taken", x.bestDay(0), 21);
    }

    private static void promise22BestDayNone() {
        MonthPage x = new MonthPage();
        due.is("no entry", x.bestDay(0), BAD);
        x.add(0, 999, NONE, 0);
        due.is("only day 0", x.bestDay(0), 0);
        due.is("bestDay(1)", x.bestDay(1), BAD);
        due.is("bestDay(-1)", x.bestDay(-1), BAD);
        x.setPage(1, 30);
        due.is("no day of the page will do", x.bestDay(0), NONE);
        x.stretch(0, 998);
        due.is("the first one will do", x.bestDay(0), 1);
        x.setPage(990, 999);
        x.add(0, 5, NONE, 0);
        due.is("the last day counts, 999 is its end", x.bestDay(1), 990);
        x.move(1, 994);
        due.is("its own day", x.bestDay(1), 994);
    }

    private static void promise22NothingChanges() {
        MonthPage x = new MonthPage();
        x.setRows(2);
        for (int n = 0; n < 24; n++) {
            x.add(n, n + n % 5, n % 3 == 0 ? NONE : n, n % 10);
        }
        long before = x.digest();
        for (int e = 0; e < 24; e++) {
            x.bestDay(e);
            x.ifRows(1 + e % 12);
            x.free(1 + e, true);
        }
        x.enough();
        due.is("nothing changes", x.digest(), before);
    }
}
