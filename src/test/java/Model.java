import java.math.BigInteger;
import java.util.ArrayList;
import java.util.Comparator;
import java.util.HashMap;
import java.util.List;
import java.util.Map;
import java.util.TreeSet;

/**
 * The document once more, told in another way and without any thrift: each answer is worked out
 * anew from the entries. MonthPage must answer the same.
 */
final class Model {
    static final int BAD = -1, STATE = -2, FULL = -3, NONE = -9;

    record Entry(int first, int last, int time, int rank) {
        boolean isLong() {
            return last != first || time == NONE;
        }
    }

    record State(int first, int last, int weekday, int rows, List<Entry> entries) {
    }

    record Bar(int entry, int first, int last, int lane) {
    }

    private State s = new State(0, 30, 0, 4, List.of());
    private final List<State> past = new ArrayList<>();
    private final StringBuilder text = new StringBuilder();

    private void change(State next) {
        past.add(s);
        if (past.size() > 8) {
            past.remove(0);
        }
        s = next;
    }

    private State with(List<Entry> entries) {
        return new State(s.first, s.last, s.weekday, s.rows, List.copyOf(entries));
    }

    private State withEntry(int e, Entry entry) {
        List<Entry> all = new ArrayList<>(s.entries);
        all.set(e, entry);
        return with(all);
    }

    // ---- what is laid

    // What was laid last is kept: the digest asks for it some thousand times.
    private static State laidState = null;
    private static List<Map<Integer, Bar>> laidBars = List.of();
    private static final Map<Integer, Map<Integer, Integer>> laidRows = new HashMap<>();

    private static void keep(State s) {
        if (laidState != s) {
            laidState = s;
            laidBars = layBars(s);
            laidRows.clear();
        }
    }

    private static List<Map<Integer, Bar>> bars(State s) {
        keep(s);
        return laidBars;
    }

    private static Map<Integer, Integer> rows(State s, int day) {
        keep(s);
        return laidRows.computeIfAbsent(day, d -> layRows(s, d));
    }

    /** The weeks of the page, each a list of its days. */
    private static List<List<Integer>> weeks(State s) {
        List<List<Integer>> weeks = new ArrayList<>();
        for (int day = s.first; day <= s.last; day++) {
            if (weeks.isEmpty() || day % 7 == s.weekday) {
                weeks.add(new ArrayList<>());
            }
            weeks.get(weeks.size() - 1).add(day);
        }
        return weeks;
    }

    /** The bars of each week, by entry. */
    private static List<Map<Integer, Bar>> layBars(State s) {
        List<Map<Integer, Bar>> all = new ArrayList<>();
        for (List<Integer> days : weeks(s)) {
            Map<Integer, Bar> before = all.isEmpty() ? Map.of() : all.get(all.size() - 1);
            all.add(barsOfWeek(s, days, before));
        }
        return all;
    }

    private static Map<Integer, Bar> barsOfWeek(State s, List<Integer> days, Map<Integer, Bar> before) {
        int start = days.get(0);
        int end = days.get(days.size() - 1);
        List<Integer> began = new ArrayList<>();
        List<Integer> others = new ArrayList<>();
        for (int e = 0; e < s.entries.size(); e++) {
            Entry x = s.entries.get(e);
            if (x.isLong() && x.first <= end && x.last >= start) {
                (x.first < start ? began : others).add(e);
            }
        }
        began.sort(Comparator.comparing((Integer e) -> before.containsKey(e) ? before.get(e).lane : 0)
            .thenComparing(e -> e));
        others.sort(Comparator.comparing((Integer e) -> s.entries.get(e).first)
            .thenComparing(e -> s.entries.get(e).first - s.entries.get(e).last)
            .thenComparing(e -> -s.entries.get(e).rank)
            .thenComparing(e -> e));
        began.addAll(others);
        Map<Integer, Bar> laid = new HashMap<>();
        for (int e : began) {
            int first = Math.max(s.entries.get(e).first, start);
            int last = Math.min(s.entries.get(e).last, end);
            int lane = 0;
            if (before.containsKey(e) && isClear(laid, before.get(e).lane, first, last)) {
                lane = before.get(e).lane;
            } else {
                while (!isClear(laid, lane, first, last)) {
                    lane++;
                }
            }
            laid.put(e, new Bar(e, first, last, lane));
        }
        return laid;
    }

    private static boolean isClear(Map<Integer, Bar> laid, int lane, int first, int last) {
        return laid.values().stream().noneMatch(b -> b.lane == lane && b.first <= last && first <= b.last);
    }

    /** The rows of the entries on a day, by entry. */
    private static Map<Integer, Integer> layRows(State s, int day) {
        Map<Integer, Integer> rows = new HashMap<>();
        for (Map<Integer, Bar> week : bars(s)) {
            for (Bar b : week.values()) {
                if (b.first <= day && day <= b.last) {
                    rows.put(b.entry, b.lane);
                }
            }
        }
        List<Integer> shorts = new ArrayList<>();
        for (int e = 0; e < s.entries.size(); e++) {
            if (!s.entries.get(e).isLong() && s.entries.get(e).first == day) {
                shorts.add(e);
            }
        }
        shorts.sort(Comparator.comparing((Integer e) -> -s.entries.get(e).rank)
            .thenComparing(e -> s.entries.get(e).time)
            .thenComparing(e -> e));
        for (int e : shorts) {
            int row = 0;
            while (rows.containsValue(row)) {
                row++;
            }
            rows.put(e, row);
        }
        return rows;
    }

    private static TreeSet<Integer> hidden(State s, int day, int rows) {
        Map<Integer, Integer> all = rows(s, day);
        TreeSet<Integer> hidden = new TreeSet<>();
        if (all.values().stream().anyMatch(r -> r >= rows)) {
            all.forEach((e, r) -> {
                if (r >= rows - 1) {
                    hidden.add(e);
                }
            });
        }
        return hidden;
    }

    private static int hiddenSum(State s, int first, int last, int rows) {
        int n = 0;
        for (int day = first; day <= last; day++) {
            n += hidden(s, day, rows).size();
        }
        return n;
    }

    private boolean isEntry(int e) {
        return e >= 0 && e < s.entries.size();
    }

    private boolean isOnPage(int day) {
        return day >= s.first && day <= s.last;
    }

    private static boolean isTime(int time) {
        return time == NONE || time >= 0 && time <= 1439;
    }

    // ---- the face

    int setPage(int first, int last) {
        if (first < 0 || first > 999 || last < first || last > 999 || last > first + 41) {
            return BAD;
        }
        change(new State(first, last, s.weekday, s.rows, s.entries));
        return weeks(s).size();
    }

    int setWeek(int weekday) {
        if (weekday < 0 || weekday > 6) {
            return BAD;
        }
        change(new State(s.first, s.last, weekday, s.rows, s.entries));
        return weeks(s).size();
    }

    int setRows(int rows) {
        if (rows < 1 || rows > 12) {
            return BAD;
        }
        int before = s.rows;
        change(new State(s.first, s.last, s.weekday, rows, s.entries));
        return before;
    }

    int week(int week, int what) {
        if (week < 0 || what < 0 || what > 5) {
            return BAD;
        }
        if (week >= weeks(s).size()) {
            return NONE;
        }
        List<Integer> days = weeks(s).get(week);
        Map<Integer, Bar> bars = bars(s).get(week);
        int first = days.get(0);
        int last = days.get(days.size() - 1);
        return switch (what) {
            case 0 -> first;
            case 1 -> last;
            case 2 -> bars.size();
            case 3 -> bars.values().stream().mapToInt(b -> b.lane + 1).max().orElse(0);
            case 4 -> (int) s.entries.stream().filter(x -> !x.isLong() && days.contains(x.first)).count();
            default -> hiddenSum(s, first, last, s.rows);
        };
    }

    int type(int c) {
        if (c < 33 || c > 126) {
            return BAD;
        }
        if (text.length() == 100) {
            return FULL;
        }
        text.append((char) c);
        return text.length();
    }

    int clear() {
        int before = text.length();
        text.setLength(0);
        return before;
    }

    int load() {
        ModelReader reader = new ModelReader(text.toString());
        if (reader.fault >= 0) {
            return -10 - reader.fault;
        }
        change(with(reader.entries));
        return s.entries.size();
    }

    int add(int first, int last, int time, int rank) {
        if (first < 0 || first > 999 || last < first || last > 999 || !isTime(time) || rank < 0 || rank > 9) {
            return BAD;
        }
        if (s.entries.size() == 24) {
            return FULL;
        }
        List<Entry> all = new ArrayList<>(s.entries);
        all.add(new Entry(first, last, time, rank));
        change(with(all));
        return all.size() - 1;
    }

    int drop(int e) {
        if (!isEntry(e)) {
            return BAD;
        }
        List<Entry> all = new ArrayList<>(s.entries);
        all.remove(e);
        change(with(all));
        return all.size();
    }

    int move(int e, int days) {
        if (!isEntry(e) || days < -999 || days > 999) {
            return BAD;
        }
        Entry x = s.entries.get(e);
        if (x.first + days < 0 || x.last + days > 999) {
            return STATE;
        }
        change(withEntry(e, new Entry(x.first + days, x.last + days, x.time, x.rank)));
        return x.first + days;
    }

    int stretch(int e, int day) {
        if (!isEntry(e) || day < 0 || day > 999) {
            return BAD;
        }
        Entry x = s.entries.get(e);
        if (day < x.first) {
            return STATE;
        }
        change(withEntry(e, new Entry(x.first, day, x.time, x.rank)));
        return day - x.first + 1;
    }

    int settle(int e, int time, int rank) {
        if (!isEntry(e) || !isTime(time) || rank < 0 || rank > 9) {
            return BAD;
        }
        Entry x = s.entries.get(e);
        Entry then = new Entry(x.first, x.last, time, rank);
        change(withEntry(e, then));
        return then.isLong() ? 1 : 0;
    }

    int entry(int e, int what) {
        if (!isEntry(e) || what < 0 || what > 7) {
            return BAD;
        }
        Entry x = s.entries.get(e);
        int days = 0;
        int hidden = 0;
        for (int day = s.first; day <= s.last; day++) {
            days += x.first <= day && day <= x.last ? 1 : 0;
            hidden += what == 6 && hidden(s, day, s.rows).contains(e) ? 1 : 0;
        }
        return switch (what) {
            case 0 -> x.first;
            case 1 -> x.last;
            case 2 -> x.time;
            case 3 -> x.rank;
            case 4 -> x.isLong() ? 1 : 0;
            case 5 -> days;
            case 6 -> hidden;
            default -> (int) bars(s).stream().filter(w -> w.containsKey(e)).count();
        };
    }

    int bar(int e, int week, int what) {
        if (!isEntry(e) || week < 0 || what < 0 || what > 4) {
            return BAD;
        }
        List<Map<Integer, Bar>> all = bars(s);
        if (week >= all.size() || !all.get(week).containsKey(e)) {
            return NONE;
        }
        Bar b = all.get(week).get(e);
        return switch (what) {
            case 0 -> b.lane;
            case 1 -> b.first;
            case 2 -> b.last;
            case 3 -> s.entries.get(e).first < b.first ? 1 : 0;
            default -> s.entries.get(e).last > b.last ? 1 : 0;
        };
    }

    int shown(int day, int row) {
        if (!isOnPage(day) || row < 0 || row > 11) {
            return BAD;
        }
        int hidden = hidden(s, day, s.rows).size();
        if (row >= s.rows) {
            return NONE;
        }
        if (hidden > 0 && row == s.rows - 1) {
            return -10 - hidden;
        }
        return rows(s, day).entrySet().stream().filter(x -> x.getValue() == row).map(Map.Entry::getKey)
            .findAny().orElse(NONE);
    }

    int rowOf(int e, int day) {
        if (!isEntry(e) || !isOnPage(day)) {
            return BAD;
        }
        return rows(s, day).getOrDefault(e, NONE);
    }

    int day(int day, int what) {
        if (!isOnPage(day) || what < 0 || what > 5) {
            return BAD;
        }
        Map<Integer, Integer> rows = rows(s, day);
        List<List<Integer>> weeks = weeks(s);
        int week = 0;
        while (!weeks.get(week).contains(day)) {
            week++;
        }
        int bars = (int) rows.keySet().stream().filter(e -> s.entries.get(e).isLong()).count();
        return switch (what) {
            case 0 -> week;
            case 1 -> day % 7;
            case 2 -> bars;
            case 3 -> rows.size() - bars;
            case 4 -> hidden(s, day, s.rows).size();
            default -> rows.values().stream().mapToInt(r -> r + 1).max().orElse(0);
        };
    }

    int enough() {
        int rows = 1;
        while (hiddenSum(s, s.first, s.last, rows) > 0) {
            rows++;
        }
        return rows;
    }

    int ifRows(int rows) {
        return rows < 1 || rows > 12 ? BAD : hiddenSum(s, s.first, s.last, rows);
    }

    int free(int days, boolean week) {
        if (days < 1 || days > 42) {
            return BAD;
        }
        for (int first = s.first; first <= s.last; first++) {
            boolean free = true;
            for (int day = first; day < first + days && free; day++) {
                int d = day;
                free = isOnPage(day) && s.entries.stream().noneMatch(x -> x.first <= d && d <= x.last)
                    && (!week || day(day, 0) == day(first, 0));
            }
            if (free) {
                return first;
            }
        }
        return NONE;
    }

    int bestDay(int e) {
        if (!isEntry(e)) {
            return BAD;
        }
        Entry x = s.entries.get(e);
        List<int[]> found = new ArrayList<>();
        for (int day = s.first; day <= s.last; day++) {
            int last = day + x.last - x.first;
            if (last <= 999) {
                State then = withEntry(e, new Entry(day, last, x.time, x.rank));
                found.add(new int[] {hiddenSum(then, s.first, s.last, s.rows), Math.abs(day - x.first), day});
            }
        }
        return found.stream().min(Comparator.comparing((int[] f) -> f[0]).thenComparing(f -> f[1])
            .thenComparing(f -> f[2])).map(f -> f[2]).orElse(NONE);
    }

    int told(int what) {
        return switch (what) {
            case 0 -> s.first;
            case 1 -> s.last;
            case 2 -> s.weekday;
            case 3 -> s.rows;
            case 4 -> weeks(s).size();
            case 5 -> s.entries.size();
            case 6 -> (int) s.entries.stream().filter(Entry::isLong).count();
            case 7 -> (int) s.entries.stream().filter(x -> x.first <= s.last && x.last >= s.first).count();
            case 8 -> bars(s).stream().mapToInt(Map::size).sum();
            case 9 -> hiddenSum(s, s.first, s.last, s.rows);
            case 10 -> text.length();
            case 11 -> past.size();
            default -> BAD;
        };
    }

    int undo() {
        if (past.isEmpty()) {
            return STATE;
        }
        s = past.remove(past.size() - 1);
        return past.size();
    }

    long digest() {
        List<Integer> values = new ArrayList<>();
        for (int what = 0; what <= 11; what++) {
            values.add(told(what));
        }
        for (int e = 0; e < s.entries.size(); e++) {
            for (int what = 0; what <= 7; what++) {
                values.add(entry(e, what));
            }
            for (int n = 0; n < 5 * weeks(s).size(); n++) {
                values.add(bar(e, n / 5, n % 5));
            }
        }
        for (int n = 0; n < 6 * weeks(s).size(); n++) {
            values.add(week(n / 6, n % 6));
        }
        for (int day = s.first; day <= s.last; day++) {
            for (int n = 0; n < 18; n++) {
                values.add(n < 6 ? day(day, n) : shown(day, n - 6));
            }
        }
        values.add(enough());
        values.add(free(1, false));
        BigInteger h = BigInteger.valueOf(43104);
        for (int value : values) {
            h = h.multiply(BigInteger.valueOf(31)).add(BigInteger.valueOf(value));
        }
        return h.longValue();
    }
}
