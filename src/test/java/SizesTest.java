import java.math.BigInteger;

/** Nothing, as much as can be, and one more: entries, texts, states, pages, days, rows, calls, the hash. */
public final class SizesTest {
    private static final int NONE = MonthPage.NONE;
    private static final int BAD = MonthPage.BAD;
    private static final int FULL = MonthPage.FULL;
    private static final Due due = new Due();

    public static void main(String[] args) {
        noEntries();
        entries24And25();
        allEntriesOfADayShort();
        allEntriesOfADayLong();
        anEmptyText();
        aTextOf100Bytes();
        eightStatesAndANinth();
        eightStatesOfEachKind();
        aPageOfOneDay();
        aPageOf42Days();
        aPageOfAWeek();
        day0AndDay999();
        entriesNextToThePage();
        oneRow();
        twelveRows();
        theHashWrapsAround();
        theHashOfASmallPage();
        calls512();
        due.end();
    }

    private static void noEntries() {
        MonthPage x = new MonthPage();
        for (int what = 5; what <= 11; what++) {
            due.is("told " + what, x.told(what), 0);
        }
        due.is("enough is at least 1", x.enough(), 1);
        due.is("ifRows(1)", x.ifRows(1), 0);
        due.is("ifRows(12)", x.ifRows(12), 0);
        due.is("the whole page is free", x.free(31, false), 0);
        due.is("and no more", x.free(32, false), NONE);
        due.is("a whole week is free", x.free(7, true), 0);
        due.is("and no more", x.free(8, true), NONE);
        for (int what = 2; what <= 5; what++) {
            due.is("week 0, " + what, x.week(0, what), 0);
            due.is("day 0, " + what, x.day(0, what), 0);
        }
        due.is("shown", x.shown(0, 0), NONE);
        due.is("shown", x.shown(30, 3), NONE);
        due.is("entry", x.entry(0, 0), BAD);
        due.is("bar", x.bar(0, 0, 0), BAD);
        due.is("rowOf", x.rowOf(0, 0), BAD);
        due.is("drop", x.drop(0), BAD);
        due.is("bestDay", x.bestDay(0), BAD);
        MonthPage y = Pages.one(5, 5, 5, 5);
        due.is("the only entry goes", y.drop(0), 0);
        due.is("no entry is left", y.entry(0, 0), BAD);
        due.is("nothing is left on its day", y.day(5, 5), 0);
        due.is("numbers begin anew", y.add(6, 6, 6, 6), 0);
    }

    private static void entries24And25() {
        MonthPage x = new MonthPage();
        for (int n = 0; n < 24; n++) {
            due.is("an entry's number", x.add(n, n + 1, NONE, n % 10), n);
        }
        due.is("24 entries", x.told(5), 24);
        due.is("a 25th", x.add(3, 3, 3, 3), FULL);
        due.is("still 24", x.told(5), 24);
        due.is("drop the last one", x.drop(23), 23);
        due.is("room for one", x.add(30, 30, 30, 3), 23);
        due.is("it is there", x.entry(23, 0), 30);
        due.is("and no more", x.add(3, 3, 3, 3), FULL);
        due.is("drop the first one", x.drop(0), 23);
        due.is("the numbers become smaller by 1", x.entry(0, 0), 1);
        due.is("also the last one", x.entry(22, 0), 30);
        due.is("there is no 24th then", x.entry(23, 0), BAD);
        Pages.write(x, "1;".repeat(24));
        due.is("24 entries of a text", x.load(), 24);
        due.is("no room behind them", x.add(3, 3, 3, 3), FULL);
        Pages.write(x, "1;".repeat(25));
        due.is("a 25th of a text", x.load(), -58);
        due.is("back", x.undo(), 7);
        due.is("23 were there", x.told(5), 23);
    }

    private static void allEntriesOfADayShort() {
        MonthPage x = new MonthPage();
        for (int n = 0; n < 24; n++) {
            x.add(30, 30, 23 - n, 0);
        }
        for (int n = 0; n < 24; n++) {
            due.is("the row of entry " + n, x.rowOf(n, 30), 23 - n);
        }
        due.is("rows of the day", x.day(30, 5), 24);
        due.is("short entries of the day", x.day(30, 3), 24);
        due.is("enough, though there are only 12 rows", x.enough(), 24);
        x.setRows(12);
        due.is("the last row above the mark", x.shown(30, 10), 13);
        due.is("the mark", x.shown(30, 11), -10 - 13);
        x.setRows(1);
        due.is("the mark of all", x.shown(30, 0), -10 - 24);
        due.is("hidden on the page", x.told(9), 24);
        due.is("where none is", x.bestDay(0), 29);
    }

    private static void allEntriesOfADayLong() {
        MonthPage x = new MonthPage();
        for (int n = 0; n < 24; n++) {
            x.add(6, 7, NONE, 0);
        }
        for (int n = 0; n < 24; n++) {
            due.is("the lane of entry " + n, x.bar(n, 0, 0), n);
            due.is("its lane in the next week", x.bar(n, 1, 0), n);
        }
        due.is("lanes", x.week(1, 3), 24);
        due.is("bars", x.told(8), 48);
        due.is("enough", x.enough(), 24);
        due.is("hidden with twelve rows", x.ifRows(12), 26);
        due.is("hidden with one row", x.ifRows(1), 48);
        x.drop(0);
        due.is("lanes without one", x.week(0, 3), 23);
    }

    private static void anEmptyText() {
        MonthPage x = new MonthPage();
        due.is("it has no bytes", x.told(10), 0);
        due.is("clear", x.clear(), 0);
        due.is("it tells no entry", x.load(), 0);
        x.add(5, 6, 7, 8);
        due.is("in place of the present ones", x.load(), 0);
        due.is("none is there then", x.told(5), 0);
        due.is("three changes", x.told(11), 3);
        x.type('x');
        due.is("one byte", x.clear(), 1);
        due.is("empty again", x.load(), 0);
    }

    private static void aTextOf100Bytes() {
        MonthPage x = new MonthPage();
        String text = "100-200@12:34!5;".repeat(6) + "123;";
        for (int n = 0; n < 99; n++) {
            x.type(text.charAt(n));
        }
        due.is("99 bytes end too early", x.load(), -10 - 99);
        due.is("the hundredth byte", x.type(';'), 100);
        due.is("a byte more", x.type(';'), FULL);
        due.is("100 bytes", x.told(10), 100);
        due.is("all of them are read", x.load(), 7);
        due.is("also the last entry", x.entry(6, 0), 123);
        due.is("clear", x.clear(), 100);
        due.is("room again", x.type('5'), 1);
        Pages.write(x, "100-200@12:34!5;".repeat(6) + "1234");
        due.is("a fault at the last byte", x.load(), -10 - 99);
        Pages.write(x, "100-200@12:34!5;".repeat(6) + "1@23");
        due.is("the text ends behind 100 bytes", x.load(), -10 - 100);
        Pages.write(x, "100-200@12:34!5;".repeat(6) + "23-4");
        due.is("a last day that is less, at the last byte", x.load(), -10 - 99);
        Pages.write(x, "100-200@12:34!5;".repeat(6) + "3@24");
        due.is("an hour above 23, at the last byte", x.load(), -10 - 99);
    }

    private static void eightStatesAndANinth() {
        MonthPage x = new MonthPage();
        for (int n = 1; n <= 8; n++) {
            due.is("add", x.add(n, n, n, 0), n - 1);
            due.is("states", x.told(11), n);
        }
        MonthPage y = new MonthPage();
        for (int n = 1; n <= 9; n++) {
            y.add(n, n, n, 0);
        }
        due.is("a ninth drops the oldest one", y.told(11), 8);
        for (int n = 7; n >= 0; n--) {
            due.is("undo of eight", x.undo(), n);
            due.is("entries then", x.told(5), n);
            due.is("undo of nine", y.undo(), n);
            due.is("entries then", y.told(5), n + 1);
        }
        due.is("no state is left", x.undo(), MonthPage.STATE);
        due.is("no state is left", y.undo(), MonthPage.STATE);
        due.is("the first add stays", y.entry(0, 0), 1);
        due.is("no entry stays", x.told(5), 0);
    }

    /** Each remembered state has a page, a weekday, rows and entries of its own. */
    private static void eightStatesOfEachKind() {
        MonthPage x = new MonthPage();
        x.type('5');
        x.type(';');
        long[] digests = new long[9];
        for (int n = 0; n < 9; n++) {
            digests[n] = withoutStates(x);
            switch (n) {
                case 0: x.setPage(2, 40); break;
                case 1: x.setWeek(6); break;
                case 2: x.setRows(1); break;
                case 3: x.load(); break;
                case 4: x.add(5, 12, 30, 3); break;
                case 5: x.move(0, 5); break;
                case 6: x.stretch(0, 20); break;
                case 7: x.settle(0, 5, 5); break;
                default: x.drop(0);
            }
        }
        for (int n = 8; n >= 1; n--) {
            due.is("undo", x.undo(), n - 1);
            due.is("as before change " + n, withoutStates(x), digests[n]);
        }
        due.is("the ninth one back is not remembered", x.undo(), MonthPage.STATE);
        due.is("so the page stays", x.told(1), 40);
    }

    private static long withoutStates(MonthPage x) {
        long h = 1;
        for (int what = 0; what <= 10; what++) {
            h = 31 * h + x.told(what);
        }
        for (int e = 0; e < x.told(5); e++) {
            for (int what = 0; what <= 7; what++) {
                h = 31 * h + x.entry(e, what);
            }
        }
        return h;
    }

    private static void aPageOfOneDay() {
        MonthPage x = new MonthPage();
        due.is("one week", x.setPage(500, 500), 1);
        due.is("its first day", x.week(0, 0), 500);
        due.is("its last day", x.week(0, 1), 500);
        due.is("no other week", x.week(1, 0), NONE);
        due.is("a free day", x.free(1, true), 500);
        due.is("not two", x.free(2, false), NONE);
        x.add(499, 501, NONE, 0);
        due.is("the bar begins", x.bar(0, 0, 1), 500);
        due.is("the bar ends", x.bar(0, 0, 2), 500);
        due.is("open to the left", x.bar(0, 0, 3), 1);
        due.is("open to the right", x.bar(0, 0, 4), 1);
        due.is("days on the page", x.entry(0, 5), 1);
        due.is("no free day", x.free(1, false), NONE);
        due.is("the only day to move it to", x.bestDay(0), 500);
        due.is("the day before is not on the page", x.day(499, 0), BAD);
        due.is("the day behind is not on the page", x.day(501, 0), BAD);
        due.is("a week begins on it", x.setWeek(500 % 7), 1);
    }

    private static void aPageOf42Days() {
        MonthPage x = new MonthPage();
        due.is("42 days from a Monday", x.setPage(700, 741), 6);
        due.is("the last week", x.week(5, 0), 735);
        due.is("there is no seventh", x.week(6, 0), NONE);
        due.is("all days are free", x.free(42, false), 700);
        due.is("43 days are too many", x.setPage(700, 742), BAD);
        due.is("42 days from a Tuesday", x.setPage(701, 742), 7);
        due.is("the seventh week", x.week(6, 0), 742);
        due.is("ends there", x.week(6, 1), 742);
        due.is("there is no eighth", x.week(7, 0), NONE);
        due.is("42 days from a Sunday", x.setPage(706, 747), 7);
        due.is("the first week", x.week(0, 1), 706);
        due.is("weeks from Sunday", x.setWeek(6), 6);
        due.is("weeks from Saturday", x.setWeek(5), 7);
        x.add(0, 999, NONE, 0);
        due.is("a bar in each week", x.entry(0, 7), 7);
        due.is("42 days on the page", x.entry(0, 5), 42);
        x.add(0, 999, 5, 0);
        x.setRows(1);
        due.is("42 days hidden", x.entry(1, 6), 42);
        due.is("twice", x.told(9), 84);
    }

    /** The first day of the page begins no next week, also if weeks begin at its weekday. */
    private static void aPageOfAWeek() {
        MonthPage x = new MonthPage();
        due.is("Monday to Sunday", x.setPage(7, 13), 1);
        due.is("and a day", x.setPage(7, 14), 2);
        due.is("the day before, too", x.setPage(6, 14), 3);
        due.is("Tuesday to Monday", x.setPage(8, 14), 2);
        due.is("the day is Monday's", x.week(1, 0), 14);
        due.is("weeks from Tuesday", x.setWeek(1), 1);
        due.is("weeks from Sunday", x.setWeek(6), 2);
        due.is("Sunday begins the second one", x.week(1, 0), 13);
    }

    private static void day0AndDay999() {
        MonthPage x = new MonthPage();
        x.setPage(0, 41);
        due.is("day 0 is a Monday", x.day(0, 1), 0);
        due.is("day 6 is a Sunday", x.day(6, 1), 6);
        due.is("day 7 is a Monday", x.day(7, 1), 0);
        due.is("an entry on day 0", x.add(0, 0, NONE, 0), 0);
        due.is("is not open to the left", x.bar(0, 0, 3), 0);
        x.setPage(958, 999);
        due.is("day 999", x.day(999, 1), 5);
        due.is("is in the last week", x.day(999, 0), 6);
        due.is("an entry on day 999", x.add(999, 999, NONE, 0), 1);
        due.is("is not open to the right", x.bar(1, 6, 4), 0);
        due.is("begins there", x.bar(1, 6, 1), 999);
        due.is("there is no day 1000", x.day(1000, 0), BAD);
        due.is("no entry on day 1000", x.move(1, 1), MonthPage.STATE);
        due.is("the last day is the best one", x.bestDay(1), 999);
        x.stretch(1, 999);
        x.move(1, -1);
        x.stretch(1, 999);
        due.is("two days are best where they are", x.bestDay(1), 998);
        due.is("day 999 is taken", x.free(41, false), NONE);
        due.is("40 are free before", x.free(40, false), 958);
    }

    private static void entriesNextToThePage() {
        MonthPage x = new MonthPage();
        x.setPage(10, 20);
        x.add(5, 9, NONE, 0);
        x.add(21, 25, NONE, 0);
        x.add(9, 9, 5, 0);
        x.add(21, 21, 5, 0);
        due.is("none is on the page", x.told(7), 0);
        due.is("no bars", x.told(8), 0);
        due.is("no days", x.entry(0, 5) + x.entry(1, 5) + x.entry(2, 5) + x.entry(3, 5), 0);
        due.is("all days are free", x.free(11, false), 10);
        x.stretch(0, 10);
        x.move(1, -1);
        x.move(2, 1);
        x.move(3, -1);
        due.is("all are on the page", x.told(7), 4);
        due.is("two bars", x.told(8), 2);
        due.is("a day each", x.entry(0, 5) * 1000 + x.entry(1, 5) * 100 + x.entry(2, 5) * 10 + x.entry(3, 5), 1111);
        due.is("bars lie above", x.rowOf(2, 10), 1);
        due.is("bars lie above", x.rowOf(3, 20), 1);
        due.is("the first and the last day are taken", x.free(9, false), 11);
        due.is("so no more", x.free(10, false), NONE);
    }

    private static void oneRow() {
        MonthPage x = Pages.one(5, 6, NONE, 0);
        due.is("one row", x.setRows(1), 4);
        due.is("a single bar is shown", x.shown(5, 0), 0);
        due.is("nothing is hidden", x.told(9), 0);
        x.add(6, 6, 5, 0);
        due.is("the only row is the mark", x.shown(6, 0), -12);
        due.is("but not on the other day", x.shown(5, 0), 0);
        due.is("the bar is hidden on one day", x.entry(0, 6), 1);
        due.is("no second row", x.shown(6, 1), NONE);
        x.drop(0);
        due.is("a single short one is shown", x.shown(6, 0), 0);
    }

    private static void twelveRows() {
        MonthPage x = new MonthPage();
        x.setRows(12);
        for (int n = 0; n < 12; n++) {
            x.add(5, 5, n % 2 == 0 ? NONE : n, 0);
        }
        due.is("twelve are shown", x.told(9), 0);
        due.is("the last row", x.shown(5, 11), 11);
        due.is("enough", x.enough(), 12);
        x.add(5, 5, 1439, 0);
        due.is("thirteen are not", x.told(9), 2);
        due.is("the last row is the mark", x.shown(5, 11), -12);
        due.is("the row above it", x.shown(5, 10), 9);
        due.is("enough", x.enough(), 13);
        due.is("ifRows(12)", x.ifRows(12), 2);
        due.is("ifRows(13)", x.ifRows(13), BAD);
        due.is("a thirteenth row", x.setRows(13), BAD);
    }

    private static final BigInteger WRAP = BigInteger.ONE.shiftLeft(64);
    private static BigInteger hash = BigInteger.ZERO;

    private static void begin() {
        hash = BigInteger.valueOf(43104);
    }

    private static void put(int value, int times) {
        for (int n = 0; n < times; n++) {
            hash = hash.multiply(BigInteger.valueOf(31)).add(BigInteger.valueOf(value)).mod(WRAP);
        }
    }

    /** A new object: the values are written down here, and the wrap-around is worked out without long. */
    private static void theHashWrapsAround() {
        begin();
        for (int value : new int[] {0, 30, 0, 4, 5, 0, 0, 0, 0, 0, 0, 0}) {
            put(value, 1);
        }
        for (int week = 0; week < 5; week++) {
            put(7 * week, 1);
            put(week < 4 ? 7 * week + 6 : 30, 1);
            put(0, 4);
        }
        for (int day = 0; day <= 30; day++) {
            put(day / 7, 1);
            put(day % 7, 1);
            put(0, 4);
            put(NONE, 12);
        }
        put(1, 1);
        put(0, 1);
        due.is("digest of a new object", new MonthPage().digest(), hash.longValue());
    }

    private static void theHashOfASmallPage() {
        begin();
        for (int value : new int[] {999, 999, 0, 1, 1, 3, 1, 3, 1, 3, 0, 5}) {
            put(value, 1);
        }
        int[][] entries = {{999, 999, 5, 0, 0, 1, 1, 0}, {999, 999, 4, 0, 0, 1, 1, 0}, {0, 999, NONE, 9, 1, 1, 1, 1}};
        int[][] bars = {{NONE, NONE, NONE, NONE, NONE}, {NONE, NONE, NONE, NONE, NONE}, {0, 999, 999, 1, 0}};
        for (int e = 0; e < 3; e++) {
            for (int value : entries[e]) {
                put(value, 1);
            }
            for (int value : bars[e]) {
                put(value, 1);
            }
        }
        for (int value : new int[] {999, 999, 1, 1, 2, 3, 0, 5, 1, 2, 3, 3, -13}) {
            put(value, 1);
        }
        put(NONE, 11);
        put(3, 1);
        put(NONE, 1);
        due.is("digest of a small page", Pages.small().digest(), hash.longValue());
    }

    private static void calls512() {
        MonthPage x = new MonthPage();
        for (int n = 0; n < 127; n++) {
            int first = n % 30;
            due.is("add", x.add(first, first + 1, NONE, 0), 0);
            due.is("move", x.move(0, 1), first + 1);
            due.is("shown", x.shown(first + 1, 0), 0);
            due.is("drop", x.drop(0), 0);
        }
        due.is("undo", x.undo(), 7);
        due.is("back", x.entry(0, 0), 126 % 30 + 1);
        due.is("the 511th call", x.told(11), 7);
        due.is("the 512th call", x.enough(), 1);
    }
}
