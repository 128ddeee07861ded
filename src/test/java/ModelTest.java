/** Long runs of mixed calls, right and wrong ones, answered by MonthPage and by Model. */
public final class ModelTest {
    private static final int RUNS = 400;
    private static final int STEPS = 120;
    // An object answers 512 calls: room is left for the last step and the end.
    private static final int MOST_CALLS = 400;
    private static final Due due = new Due();

    // Numbers that always come in the same order, so that a run that fails can be run again.
    private long seed = 1;
    private int calls = 0;
    private final MonthPage x = new MonthPage();
    private final Model y = new Model();

    private ModelTest(int run) {
        seed = 77 * run + 5;
    }

    public static void main(String[] args) {
        for (int run = 0; run < RUNS && !due.isWrong(); run++) {
            ModelTest test = new ModelTest(run);
            for (int step = 0; step < STEPS && test.calls < MOST_CALLS && !due.isWrong(); step++) {
                test.step("run " + run + ", step " + step);
            }
            test.compareAll("run " + run + ", at its end");
        }
        readTexts();
        due.end();
    }

    private void same(String call, long got, long want) {
        calls++;
        due.is(call, got, want);
    }

    private int below(int bound) {
        seed = seed * 6364136223846793005L + 1442695040888963407L;
        return (int) ((seed >>> 33) % bound);
    }

    private int among(int least, int most) {
        return least + below(most - least + 1);
    }

    /** A number that is mostly within the bounds, and sometimes next to them or far off. */
    private int about(int least, int most) {
        int kind = below(25);
        if (kind == 0) {
            return least - 1;
        }
        if (kind == 1) {
            return most + 1;
        }
        if (kind == 2) {
            int[] far = {Integer.MIN_VALUE, Integer.MAX_VALUE, -9, -1000, 1000, 0};
            return far[below(far.length)];
        }
        return among(least, most);
    }

    private int anEntry() {
        return about(0, Math.max(0, y.told(5) - 1));
    }

    private int aDay() {
        return about(y.told(0), y.told(1));
    }

    private int aTime() {
        return below(3) == 0 ? MonthPage.NONE : about(0, below(2) == 0 ? 3 : 1439);
    }

    private void step(String where) {
        switch (below(22)) {
            case 0: page(where); break;
            case 1: rowsOrWeekday(where); break;
            case 2: text(where); break;
            case 3: case 4: case 5: case 6: case 7: add(where); break;
            case 8: change(where); break;
            case 9: change(where); break;
            case 10: same(where + ": undo", x.undo(), y.undo()); break;
            default: ask(where);
        }
    }

    private void page(String where) {
        int first = below(4) == 0 ? about(0, 999) : about(0, 40);
        int last = first + (below(3) == 0 ? about(0, 41) : among(10, 41));
        same(where + ": setPage", x.setPage(first, last), y.setPage(first, last));
    }

    private void rowsOrWeekday(String where) {
        if (below(2) == 0) {
            int rows = about(1, below(2) == 0 ? 4 : 12);
            same(where + ": setRows", x.setRows(rows), y.setRows(rows));
        } else {
            int weekday = about(0, 6);
            same(where + ": setWeek", x.setWeek(weekday), y.setWeek(weekday));
        }
    }

    private void add(String where) {
        int first = Math.max(-1, aDay() - below(5));
        int length = below(3) == 0 ? 0 : below(2) == 0 ? below(4) : below(25);
        int time = aTime();
        int rank = about(0, below(2) == 0 ? 2 : 9);
        same(where + ": add", x.add(first, first + length, time, rank), y.add(first, first + length, time, rank));
    }

    private void change(String where) {
        int e = anEntry();
        int kind = below(5);
        if (kind == 0 && below(2) == 0) {
            same(where + ": drop", x.drop(e), y.drop(e));
        } else if (kind == 1) {
            int days = below(3) == 0 ? about(-999, 999) : about(-8, 8);
            same(where + ": move", x.move(e, days), y.move(e, days));
        } else if (kind == 2) {
            int day = aDay();
            same(where + ": stretch", x.stretch(e, day), y.stretch(e, day));
        } else {
            int time = aTime();
            int rank = about(0, 9);
            same(where + ": settle", x.settle(e, time, rank), y.settle(e, time, rank));
        }
    }

    private void text(String where) {
        if (below(3) == 0) {
            same(where + ": clear", x.clear(), y.clear());
        }
        int entries = below(4);
        for (int n = 0; n < entries; n++) {
            type(where, entryText());
        }
        if (below(4) == 0) {
            int c = about(33, 126);
            same(where + ": type", x.type(c), y.type(c));
        }
        same(where + ": load", x.load(), y.load());
    }

    private void type(String where, String bytes) {
        for (char c : bytes.toCharArray()) {
            same(where + ": type", x.type(c), y.type(c));
        }
    }

    private String entryText() {
        StringBuilder b = new StringBuilder();
        int first = below(40);
        b.append(first);
        if (below(2) == 0) {
            b.append('-').append(below(12) == 0 ? below(1200) : first + below(20));
        }
        if (below(2) == 0) {
            b.append('@').append(below(3)).append(below(5)).append(':').append(below(6)).append(below(10));
        }
        if (below(2) == 0) {
            b.append('!').append(below(10));
        }
        return b.append(';').toString();
    }

    private void ask(String where) {
        int e = anEntry();
        int day = aDay();
        int week = about(0, 7);
        switch (below(11)) {
            case 0: int w = about(0, 5); same(where + ": week", x.week(week, w), y.week(week, w)); break;
            case 1: int n = about(0, 7); same(where + ": entry", x.entry(e, n), y.entry(e, n)); break;
            case 2: int b = about(0, 4); same(where + ": bar", x.bar(e, week, b), y.bar(e, week, b)); break;
            case 3: int r = about(0, 11); same(where + ": shown", x.shown(day, r), y.shown(day, r)); break;
            case 4: same(where + ": rowOf", x.rowOf(e, day), y.rowOf(e, day)); break;
            case 5: int d = about(0, 5); same(where + ": day", x.day(day, d), y.day(day, d)); break;
            case 6: same(where + ": enough", x.enough(), y.enough()); break;
            case 7: int i = about(1, 12); same(where + ": ifRows", x.ifRows(i), y.ifRows(i)); break;
            case 8: free(where); break;
            case 9: if (below(4) == 0) { same(where + ": bestDay", x.bestDay(e), y.bestDay(e)); } break;
            default: int t = about(0, 11); same(where + ": told", x.told(t), y.told(t));
        }
    }

    private void free(String where) {
        int days = about(1, below(2) == 0 ? 8 : 42);
        same(where + ": free", x.free(days, true), y.free(days, true));
        same(where + ": free", x.free(days, false), y.free(days, false));
    }

    /** The digest tells of all that is laid; where it differs, the calls that differ are looked for. */
    private void compareAll(String where) {
        for (int what = 0; what <= 11; what++) {
            same(where + ": told " + what, x.told(what), y.told(what));
        }
        same(where + ": digest", x.digest(), y.digest());
        for (int n = 0; n <= 8; n++) {
            same(where + ": undo", x.undo(), y.undo());
            same(where + ": rows then", x.told(3), y.told(3));
            same(where + ": hidden then", x.told(9), y.told(9));
        }
    }

    /** Texts with faults of all kinds: right ones with a byte changed, put in, or cut away. */
    private static void readTexts() {
        ModelTest test = new ModelTest(0);
        String signs = "0123456789-@:!;;--x";
        for (int n = 0; n < 40000 && !due.isWrong(); n++) {
            StringBuilder b = new StringBuilder(test.entryText());
            if (test.below(2) == 0) {
                b.append(test.entryText());
            }
            for (int k = test.below(3); k >= 0; k--) {
                int at = test.below(b.length());
                char c = signs.charAt(test.below(signs.length()));
                switch (test.below(4)) {
                    case 0: b.setCharAt(at, c); break;
                    case 1: b.insert(at, c); break;
                    case 2: b.setLength(at + 1); break;
                    default: b.append(test.entryText());
                }
            }
            MonthPage x = new MonthPage();
            Model y = new Model();
            for (char c : b.toString().toCharArray()) {
                x.type(c);
                y.type(c);
            }
            due.is("load of " + b, x.load(), y.load());
        }
    }
}
