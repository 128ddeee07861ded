/** Promises 6 to 14: type, clear, load, add, drop, move, stretch, settle, entry. */
public final class EntriesTest {
    private static final int NONE = MonthPage.NONE;
    private static final int BAD = MonthPage.BAD;
    private static final Due due = new Due();

    public static void main(String[] args) {
        promise6Type();
        promise7Clear();
        promise8LoadReads();
        promise8LoadReplaces();
        promise8Faults();
        promise8TooManyEntries();
        promise9Add();
        promise10Drop();
        promise11Move();
        promise12Stretch();
        promise13Settle();
        promise14Entry();
        due.end();
    }

    private static void write(MonthPage x, String text) {
        x.clear();
        for (char c : text.toCharArray()) {
            x.type(c);
        }
    }

    private static int loaded(String text) {
        MonthPage x = new MonthPage();
        write(x, text);
        return x.load();
    }

    private static long[] entry(MonthPage x, int e) {
        return new long[] {x.entry(e, 0), x.entry(e, 1), x.entry(e, 2), x.entry(e, 3)};
    }

    private static void promise6Type() {
        MonthPage x = new MonthPage();
        due.is("type(32)", x.type(32), BAD);
        due.is("type(127)", x.type(127), BAD);
        due.is("type(-1)", x.type(-1), BAD);
        due.is("type(33)", x.type(33), 1);
        due.is("type(126)", x.type(126), 2);
        for (int n = 3; n <= 100; n++) {
            due.is("type: byte " + n, x.type('1'), n);
        }
        due.is("101st byte", x.type('1'), MonthPage.FULL);
        due.is("BAD comes before FULL", x.type(0), BAD);
        due.is("bytes", x.told(10), 100);
        due.is("no change", x.told(11), 0);
    }

    private static void promise7Clear() {
        MonthPage x = new MonthPage();
        write(x, "5;6;");
        due.is("clear", x.clear(), 4);
        due.is("clear again", x.clear(), 0);
        due.is("bytes", x.told(10), 0);
        x.type('7');
        x.type(';');
        due.is("only the new text", x.load(), 1);
        due.is("only the new text", x.entry(0, 0), 7);
        for (int n = 0; n < 98; n++) {
            x.type('1');
        }
        due.is("a full one", x.clear(), 100);
        due.is("no change", x.told(11), 1);
    }

    private static void promise8LoadReads() {
        MonthPage x = new MonthPage();
        write(x, "5;007-009;0-999@00:00!9;12@23:59;30!4;3-3@09:05!0;999;");
        due.is("load", x.load(), 7);
        due.are("5", entry(x, 0), 5, 5, NONE, 0);
        due.are("007-009", entry(x, 1), 7, 9, NONE, 0);
        due.are("0-999@00:00!9", entry(x, 2), 0, 999, 0, 9);
        due.are("12@23:59", entry(x, 3), 12, 12, 1439, 0);
        due.are("30!4", entry(x, 4), 30, 30, NONE, 4);
        due.are("3-3@09:05!0", entry(x, 5), 3, 3, 545, 0);
        due.are("999", entry(x, 6), 999, 999, NONE, 0);
        due.is("the text stays", x.told(10), 54);
        due.is("again", x.load(), 7);
    }

    private static void promise8LoadReplaces() {
        MonthPage x = new MonthPage();
        x.setPage(10, 20);
        x.setRows(7);
        x.setWeek(2);
        x.add(12, 14, 5, 6);
        x.add(15, 15, NONE, 6);
        write(x, "11@10:00;");
        due.is("load", x.load(), 1);
        due.is("a change", x.told(11), 6);
        due.are("replaced", entry(x, 0), 11, 11, 600, 0);
        due.is("laid", x.shown(11, 0), 0);
        due.is("no more laid", x.day(12, 5), 0);
        due.is("page stays", x.told(0) * 1000 + x.told(1), 10020);
        due.is("rows stay", x.told(3), 7);
        due.is("weekday stays", x.told(2), 2);
        write(x, "11;x");
        due.is("a fault", x.load(), -13);
        due.is("then no change", x.told(11), 6);
        due.are("then nothing changes", entry(x, 0), 11, 11, 600, 0);
        x.clear();
        due.is("the empty text", x.load(), 0);
        due.is("no entries", x.told(5), 0);
        x.undo();
        due.is("undone", x.told(5), 1);
        x.undo();
        due.is("undone", x.told(5), 2);
    }

    private static void promise8Faults() {
        Object[][] faults = {
            {"5", 1}, {"51", 2}, {"512", 3}, {"5120", 3}, {";", 0}, {"-5;", 0}, {"x", 0}, {"5x", 1},
            {"5;;", 2}, {"5; 6", 3}, {"5;7", 3},
            {"5-", 2}, {"5-;", 2}, {"5-6", 3}, {"5-6-7;", 3}, {"5-x", 2}, {"5--6;", 2},
            {"9-8;", 2}, {"9-8", 2}, {"9-8x", 2}, {"9-008;", 4}, {"9-08", 3}, {"100-99@00:00;", 5},
            {"200-1999;", 7}, {"9-0000;", 5}, {"200-20", 5}, {"200-200", 7}, {"0-0000", 5}, {"12-11!1;", 4},
            {"5@", 2}, {"5@;", 2}, {"5@1", 3}, {"5@1:30;", 3}, {"5@24:00;", 3}, {"5@24", 3}, {"5@30", 3},
            {"5@99x", 3}, {"5@3", 3}, {"5@12", 4}, {"5@12;", 4}, {"5@123", 4}, {"5@12:", 5}, {"5@12:;", 5},
            {"5@12:6", 6}, {"5@12:60;", 6}, {"5@12:60", 6}, {"5@12:99x", 6}, {"5@12:5;", 6}, {"5@12:59", 7},
            {"5@12:591", 7}, {"5@12:30-6;", 7}, {"5@12:30@13:00;", 7}, {"5@242", 3},
            {"5!", 2}, {"5!;", 2}, {"5!x", 2}, {"5!3", 3}, {"5!34;", 3}, {"5!3@12:00;", 3}, {"5!3!4;", 3},
            {"5!3-6;", 3}, {"5-6@12:00!3", 11}, {"5;6;9-8;4;", 6}, {"1;2;3;4@25:99;", 9}, {"5/6;", 1},
            {"5:6;", 1}, {"5@12/30;", 4}};
        for (Object[] f : faults) {
            due.is("load of " + f[0], loaded((String) f[0]), -10 - (Integer) f[1]);
        }
    }

    private static void promise8TooManyEntries() {
        String all = "1;2;3;4;5;6;7;8;9;1;2;3;4;5;6;7;8;9;1;2;3;4;5;6;";
        due.is("24 entries", loaded(all), 24);
        due.is("a 25th", loaded(all + "7;"), -10 - 48);
        due.is("the begin of a 25th", loaded(all + "7"), -10 - 48);
        due.is("what is no 25th", loaded(all + "x"), -10 - 48);
        due.is("a fault before", loaded("x" + all), -10);
        String full = "11@10:00;".repeat(10);
        due.is("90 bytes", full.length(), 90);
        due.is("90 bytes", loaded(full + "11@10:00;"), 11);
        due.is("100 bytes", loaded(full + "11@10:00!4"), -10 - 100);
        due.is("100 bytes", loaded(full + "1-22@10:0;"), -10 - 99);
        due.is("100 bytes", loaded(full + "1@10:00!5;"), 11);
    }

    private static void promise9Add() {
        MonthPage x = new MonthPage();
        int[][] faults = {{-1, 0, 0, 0}, {0, 1000, 0, 0}, {1000, 1000, 0, 0}, {5, 4, 0, 0}, {0, 0, 1440, 0},
            {0, 0, -1, 0}, {0, 0, -8, 0}, {0, 0, -10, 0}, {0, 0, 0, -1}, {0, 0, 0, 10}, {0, 0, 0, NONE},
            {Integer.MIN_VALUE, 0, 0, 0}, {0, Integer.MAX_VALUE, 0, 0}};
        for (int[] f : faults) {
            due.is("add: fault", x.add(f[0], f[1], f[2], f[3]), BAD);
        }
        due.is("no entry, no change", x.told(5) + x.told(11), 0);
        due.is("add(0, 999, NONE, 9)", x.add(0, 999, NONE, 9), 0);
        due.is("add(999, 999, 0, 0)", x.add(999, 999, 0, 0), 1);
        due.is("add(0, 0, 1439, 5)", x.add(0, 0, 1439, 5), 2);
        due.are("entry 0", entry(x, 0), 0, 999, NONE, 9);
        due.are("entry 1", entry(x, 1), 999, 999, 0, 0);
        due.are("entry 2", entry(x, 2), 0, 0, 1439, 5);
        due.is("laid", x.rowOf(2, 0), 1);
        due.is("changes", x.told(11), 3);
        for (int n = 3; n < 24; n++) {
            due.is("add: number " + n, x.add(n, n, n, 0), n);
        }
        due.is("a 25th", x.add(1, 1, 1, 1), MonthPage.FULL);
        due.is("BAD comes before FULL", x.add(1, 0, 1, 1), BAD);
        x.undo();
        due.is("undone", x.told(5), 23);
        due.is("room again", x.add(1, 1, 1, 1), 23);
    }

    private static void promise10Drop() {
        MonthPage x = new MonthPage();
        due.is("drop(0) of none", x.drop(0), BAD);
        x.add(1, 2, 3, 4);
        x.add(5, 6, 7, 8);
        x.add(9, 10, NONE, 1);
        due.is("drop(3)", x.drop(3), BAD);
        due.is("drop(-1)", x.drop(-1), BAD);
        due.is("no change", x.told(11), 3);
        due.is("drop(1)", x.drop(1), 2);
        due.are("entry 0", entry(x, 0), 1, 2, 3, 4);
        due.are("entry 1", entry(x, 1), 9, 10, NONE, 1);
        due.is("entry 2", x.entry(2, 0), BAD);
        due.is("laid", x.shown(9, 0), 1);
        due.is("laid", x.shown(5, 0), NONE);
        due.is("drop(1)", x.drop(1), 1);
        due.is("drop(0)", x.drop(0), 0);
        x.undo();
        x.undo();
        x.undo();
        due.are("undone", entry(x, 1), 5, 6, 7, 8);
        due.are("undone", entry(x, 2), 9, 10, NONE, 1);
        for (int n = 3; n < 24; n++) {
            x.add(n, n, n, 0);
        }
        due.is("the first one of 24", x.drop(0), 23);
        due.are("the last one then", entry(x, 22), 23, 23, 23, 0);
        due.is("the last one", x.drop(22), 22);
        due.are("the last one then", entry(x, 21), 22, 22, 22, 0);
    }

    private static void promise11Move() {
        MonthPage x = new MonthPage();
        x.add(10, 12, 30, 2);
        due.is("move(1, 0)", x.move(1, 0), BAD);
        due.is("move(-1, 0)", x.move(-1, 0), BAD);
        due.is("move(0, 1000)", x.move(0, 1000), BAD);
        due.is("move(0, -1000)", x.move(0, -1000), BAD);
        due.is("move(1, -999)", x.move(1, -999), BAD);
        due.is("move(0, -11)", x.move(0, -11), MonthPage.STATE);
        due.is("move(0, 988)", x.move(0, 988), MonthPage.STATE);
        due.is("move(0, 999)", x.move(0, 999), MonthPage.STATE);
        due.is("no change", x.told(11), 1);
        due.is("move(0, 987)", x.move(0, 987), 997);
        due.are("moved", entry(x, 0), 997, 999, 30, 2);
        due.is("move(0, -997)", x.move(0, -997), 0);
        due.are("moved", entry(x, 0), 0, 2, 30, 2);
        due.is("laid", x.shown(2, 0), 0);
        due.is("move(0, 0)", x.move(0, 0), 0);
        due.is("changes", x.told(11), 4);
        x.add(0, 0, NONE, 0);
        due.is("move(1, 999)", x.move(1, 999), 999);
        due.is("move(1, -999)", x.move(1, -999), 0);
    }

    private static void promise12Stretch() {
        MonthPage x = new MonthPage();
        x.add(10, 12, 30, 2);
        due.is("stretch(1, 5)", x.stretch(1, 5), BAD);
        due.is("stretch(0, -1)", x.stretch(0, -1), BAD);
        due.is("stretch(0, 1000)", x.stretch(0, 1000), BAD);
        due.is("stretch(0, 9)", x.stretch(0, 9), MonthPage.STATE);
        due.is("stretch(0, 0)", x.stretch(0, 0), MonthPage.STATE);
        due.is("no change", x.told(11), 1);
        due.is("stretch(0, 10)", x.stretch(0, 10), 1);
        due.is("short then", x.entry(0, 4), 0);
        due.is("no bar then", x.bar(0, 1, 0), NONE);
        due.is("stretch(0, 999)", x.stretch(0, 999), 990);
        due.are("stretched", entry(x, 0), 10, 999, 30, 2);
        due.is("bars then", x.entry(0, 7), 4);
        due.is("stretch(0, 999)", x.stretch(0, 999), 990);
        due.is("changes", x.told(11), 4);
    }

    private static void promise13Settle() {
        MonthPage x = new MonthPage();
        x.add(10, 10, 30, 2);
        x.add(10, 11, 30, 2);
        due.is("settle(2, 0, 0)", x.settle(2, 0, 0), BAD);
        due.is("settle(0, 1440, 0)", x.settle(0, 1440, 0), BAD);
        due.is("settle(0, -1, 0)", x.settle(0, -1, 0), BAD);
        due.is("settle(0, -10, 0)", x.settle(0, -10, 0), BAD);
        due.is("settle(0, 0, 10)", x.settle(0, 0, 10), BAD);
        due.is("settle(0, 0, -1)", x.settle(0, 0, -1), BAD);
        due.is("no change", x.told(11), 2);
        due.is("settle(0, NONE, 9)", x.settle(0, NONE, 9), 1);
        due.are("settled", entry(x, 0), 10, 10, NONE, 9);
        due.is("a bar then", x.bar(0, 1, 0), 1);
        due.is("settle(0, 1439, 0)", x.settle(0, 1439, 0), 0);
        due.are("settled", entry(x, 0), 10, 10, 1439, 0);
        due.is("no bar then", x.bar(0, 1, 0), NONE);
        due.is("settle(1, 0, 0)", x.settle(1, 0, 0), 1);
        due.is("settle(1, NONE, 0)", x.settle(1, NONE, 0), 1);
        due.is("changes", x.told(11), 6);
    }

    private static void promise14Entry() {
        MonthPage x = new MonthPage();
        x.setPage(5, 18);
        x.add(0, 9, 45, 3);
        x.add(6, 6, 0, 9);
        x.add(6, 6, NONE, 0);
        x.add(19, 25, NONE, 0);
        x.add(0, 4, NONE, 0);
        x.add(0, 999, NONE, 0);
        long[] got = new long[8];
        for (int what = 0; what < 8; what++) {
            got[what] = x.entry(0, what);
        }
        due.are("entry(0)", got, 0, 9, 45, 3, 1, 5, 0, 2);
        due.is("short", x.entry(1, 4), 0);
        due.is("short: days", x.entry(1, 5), 1);
        due.is("short: bars", x.entry(1, 7), 0);
        due.is("no time: long", x.entry(2, 4), 1);
        due.is("no time: bars", x.entry(2, 7), 1);
        due.is("behind the page: days", x.entry(3, 5), 0);
        due.is("behind the page: bars", x.entry(3, 7), 0);
        due.is("before the page: days", x.entry(4, 5), 0);
        due.is("before the page: bars", x.entry(4, 7), 0);
        due.is("around the page: days", x.entry(5, 5), 14);
        due.is("around the page: bars", x.entry(5, 7), 3);
        x.setRows(1);
        due.is("in lane 1 it is hidden on all days", x.entry(5, 6), 14);
        due.is("hidden with another on the day", x.entry(0, 6), 5);
        due.is("not on the page, so not hidden", x.entry(3, 6), 0);
        x.setRows(3);
        due.is("above the mark", x.entry(5, 6), 0);
        due.is("in the row of the mark", x.entry(2, 6), 1);
        due.is("below the mark", x.entry(1, 6), 1);
        due.is("entry(0, 8)", x.entry(0, 8), BAD);
        due.is("entry(0, -1)", x.entry(0, -1), BAD);
        due.is("entry(6, 0)", x.entry(6, 0), BAD);
        due.is("entry(-1, 0)", x.entry(-1, 0), BAD);
    }
}
