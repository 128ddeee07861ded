import java.util.ArrayList;
import java.util.List;

/** Objects to begin with, and all that one of them can be asked for. */
final class Pages {
    private static final int NONE = MonthPage.NONE;

    private Pages() {
    }

    static void write(MonthPage x, String text) {
        x.clear();
        for (char c : text.toCharArray()) {
            x.type(c);
        }
    }

    /** A new object with one entry. */
    static MonthPage one(int first, int last, int time, int rank) {
        MonthPage x = new MonthPage();
        x.add(first, last, time, rank);
        return x;
    }

    /**
     * Days 3 to 24, weeks from Wednesday (3, 9, 16, 23), two rows, four states, a text with a fault.
     * Day 8 has bars 0 and 3 in lanes 0 and 1, and the short entries 1 and 2 in rows 2 and 3.
     */
    static MonthPage some() {
        MonthPage x = new MonthPage();
        x.setPage(3, 24);
        x.setWeek(2);
        x.setRows(2);
        write(x, "0-9;8@00:30!5;8@00:20;8-12@10:00!9;50-60;");
        x.load();
        write(x, "5;6-7");
        return x;
    }

    /** The last 42 days, twelve rows, 24 entries, eight states, 100 bytes of text with a fault. */
    static MonthPage full() {
        MonthPage x = new MonthPage();
        x.setPage(958, 999);
        x.setRows(12);
        for (int n = 0; n < 24; n++) {
            x.add(976 + n, Math.min(999, 976 + n + n % 4), n % 3 == 0 ? NONE : 60 * n, n % 10);
        }
        write(x, "1;".repeat(24) + "y".repeat(52));
        return x;
    }

    /** The last day alone, one row, three entries, of which all are hidden. */
    static MonthPage small() {
        MonthPage x = new MonthPage();
        x.setPage(999, 999);
        x.setRows(1);
        x.add(999, 999, 5, 0);
        x.add(999, 999, 4, 0);
        x.add(0, 999, NONE, 9);
        return x;
    }

    /** What the object answers at present, what it remembers, and what its text tells; spends it. */
    static long[] whole(MonthPage x) {
        List<Long> all = new ArrayList<>();
        all.add(x.digest());
        for (int n = 0; n <= 8; n++) {
            all.add((long) x.undo());
            all.add(x.digest());
        }
        all.add((long) x.load());
        all.add(x.digest());
        all.add((long) x.clear());
        return all.stream().mapToLong(n -> n).toArray();
    }
}
