/**
 * A page of a month: long entries are bars in lanes, cut where a week ends; short entries are
 * stacked below them; what does not fit into a day is counted. ../shared/DOC.md tells it whole.
 */
public final class MonthPage {
    public static final int BAD = -1, STATE = -2, FULL = -3, NONE = -9;

    private static final int LAST_DAY = 999;
    private static final int LAST_MINUTE = 1439;
    private static final int LAST_RANK = 9;
    private static final int DAYS_OF_WEEK = 7;
    private static final int MOST_DAYS = 42;
    // 42 days are cut into one week more than six if their first week has less than seven days.
    private static final int MOST_WEEKS = 7;
    private static final int MOST_ROWS = 12;
    private static final int MOST_ENTRIES = 24;
    private static final int MOST_BYTES = 100;
    private static final int MOST_STATES = 8;
    // A number of hidden entries and a fault are told as this minus the number.
    private static final int TOLD_BELOW = -10;

    private final Page now;
    // What would be is laid here, so that nothing of the page itself changes.
    private final Page trial;
    private final Past past;
    private final Text text;

    public MonthPage() {
        now = new Page();
        trial = new Page();
        past = new Past();
        text = new Text();
        now.lay();
    }

    public int setPage(int first, int last) {
        if (!isDay(first) || !isDay(last) || last < first || last - first >= MOST_DAYS) {
            return BAD;
        }
        past.record(now.plan);
        now.plan.first = first;
        now.plan.last = last;
        now.lay();
        return now.weeks;
    }

    public int setWeek(int weekday) {
        if (!isWithin(weekday, 0, DAYS_OF_WEEK - 1)) {
            return BAD;
        }
        past.record(now.plan);
        now.plan.weekday = weekday;
        now.lay();
        return now.weeks;
    }

    public int setRows(int rows) {
        if (!isWithin(rows, 1, MOST_ROWS)) {
            return BAD;
        }
        past.record(now.plan);
        int before = now.plan.rows;
        // Where entries lie does not depend on the rows: so nothing is laid anew.
        now.plan.rows = rows;
        return before;
    }

    public int week(int week, int what) {
        if (week < 0 || !isWithin(what, 0, 5)) {
            return BAD;
        }
        if (week >= now.weeks) {
            return NONE;
        }
        int first = now.firstOfWeek(week);
        int last = now.lastOfWeek(week);
        switch (what) {
            case 0: return first;
            case 1: return last;
            case 2: return now.barsInWeek(week);
            case 3: return now.lanesInWeek(week);
            case 4: return now.plan.shortOnes(first, last);
            default: return now.hiddenOnDays(first, last, now.plan.rows);
        }
    }

    public int type(int c) {
        if (!isWithin(c, 33, 126)) {
            return BAD;
        }
        if (text.length >= MOST_BYTES) {
            return FULL;
        }
        text.append(c);
        return text.length;
    }

    public int clear() {
        int before = text.length;
        text.length = 0;
        return before;
    }

    public int load() {
        Plan read = trial.plan;
        read.copy(now.plan);
        int fault = text.read(read);
        if (fault != Text.SOUND) {
            return TOLD_BELOW - fault;
        }
        past.record(now.plan);
        now.plan.copy(read);
        now.lay();
        return now.plan.count;
    }

    public int add(int first, int last, int time, int rank) {
        if (!isDay(first) || !isDay(last) || last < first || !isTime(time) || !isRank(rank)) {
            return BAD;
        }
        if (now.plan.count >= MOST_ENTRIES) {
            return FULL;
        }
        past.record(now.plan);
        now.plan.append(first, last, time, rank);
        now.lay();
        return now.plan.count - 1;
    }

    public int drop(int e) {
        if (!isEntry(e)) {
            return BAD;
        }
        past.record(now.plan);
        now.plan.remove(e);
        now.lay();
        return now.plan.count;
    }

    public int move(int e, int days) {
        if (!isEntry(e) || !isWithin(days, -LAST_DAY, LAST_DAY)) {
            return BAD;
        }
        int first = now.plan.from[e] + days;
        int last = now.plan.to[e] + days;
        if (!isDay(first) || !isDay(last)) {
            return STATE;
        }
        past.record(now.plan);
        now.plan.from[e] = first;
        now.plan.to[e] = last;
        now.lay();
        return first;
    }

    public int stretch(int e, int day) {
        if (!isEntry(e) || !isDay(day)) {
            return BAD;
        }
        if (day < now.plan.from[e]) {
            return STATE;
        }
        past.record(now.plan);
        now.plan.to[e] = day;
        now.lay();
        return day - now.plan.from[e] + 1;
    }

    public int settle(int e, int time, int rank) {
        if (!isEntry(e) || !isTime(time) || !isRank(rank)) {
            return BAD;
        }
        past.record(now.plan);
        now.plan.time[e] = time;
        now.plan.rank[e] = rank;
        now.lay();
        return asNumber(now.plan.isLong(e));
    }

    public int entry(int e, int what) {
        if (!isEntry(e)) {
            return BAD;
        }
        switch (what) {
            case 0: return now.plan.from[e];
            case 1: return now.plan.to[e];
            case 2: return now.plan.time[e];
            case 3: return now.plan.rank[e];
            case 4: return asNumber(now.plan.isLong(e));
            case 5: return now.plan.daysOnPage(e);
            case 6: return now.daysHidden(e);
            case 7: return now.barsOfEntry(e);
            default: return BAD;
        }
    }

    public int bar(int e, int week, int what) {
        if (!isEntry(e) || week < 0 || !isWithin(what, 0, 4)) {
            return BAD;
        }
        if (week >= now.weeks || now.lane[e][week] == NONE) {
            return NONE;
        }
        int first = now.firstOfWeek(week);
        int last = now.lastOfWeek(week);
        switch (what) {
            case 0: return now.lane[e][week];
            case 1: return Math.max(now.plan.from[e], first);
            case 2: return Math.min(now.plan.to[e], last);
            case 3: return asNumber(now.plan.from[e] < first);
            default: return asNumber(now.plan.to[e] > last);
        }
    }

    public int shown(int day, int row) {
        if (!isOnPage(day) || !isWithin(row, 0, MOST_ROWS - 1)) {
            return BAD;
        }
        int rows = now.plan.rows;
        if (row >= rows) {
            return NONE;
        }
        int hidden = now.hiddenOnDay(day, rows);
        if (hidden > 0 && row == rows - 1) {
            return TOLD_BELOW - hidden;
        }
        return now.entryInRow(day, row);
    }

    public int rowOf(int e, int day) {
        if (!isEntry(e) || !isOnPage(day)) {
            return BAD;
        }
        return now.rowOnDay(e, day);
    }

    public int day(int day, int what) {
        if (!isOnPage(day)) {
            return BAD;
        }
        switch (what) {
            case 0: return now.weekOfDay(day);
            case 1: return day % DAYS_OF_WEEK;
            case 2: return now.plan.longOnes(day);
            case 3: return now.plan.shortOnes(day, day);
            case 4: return now.hiddenOnDay(day, now.plan.rows);
            case 5: return now.rowsOnDay(day);
            default: return BAD;
        }
    }

    public int enough() {
        int rows = 1;
        for (int day = now.plan.first; day <= now.plan.last; day++) {
            rows = Math.max(rows, now.rowsOnDay(day));
        }
        return rows;
    }

    public int ifRows(int rows) {
        if (!isWithin(rows, 1, MOST_ROWS)) {
            return BAD;
        }
        return now.hiddenOnPage(rows);
    }

    public int free(int days, boolean week) {
        if (!isWithin(days, 1, MOST_DAYS)) {
            return BAD;
        }
        for (int first = now.plan.first; first + days - 1 <= now.plan.last; first++) {
            int last = first + days - 1;
            boolean fits = !week || now.weekOfDay(first) == now.weekOfDay(last);
            if (fits && now.isEmptyOnDays(first, last)) {
                return first;
            }
        }
        return NONE;
    }

    public int bestDay(int e) {
        if (!isEntry(e)) {
            return BAD;
        }
        Plan plan = trial.plan;
        plan.copy(now.plan);
        int present = now.plan.from[e];
        int length = now.plan.to[e] - present;
        int best = NONE;
        int fewest = 0;
        for (int day = plan.first; day <= plan.last && day + length <= LAST_DAY; day++) {
            plan.from[e] = day;
            plan.to[e] = day + length;
            trial.lay();
            int hidden = trial.hiddenOnPage(plan.rows);
            boolean nearer = Math.abs(day - present) < Math.abs(best - present);
            if (best == NONE || hidden < fewest || hidden == fewest && nearer) {
                best = day;
                fewest = hidden;
            }
        }
        return best;
    }

    public int told(int what) {
        switch (what) {
            case 0: return now.plan.first;
            case 1: return now.plan.last;
            case 2: return now.plan.weekday;
            case 3: return now.plan.rows;
            case 4: return now.weeks;
            case 5: return now.plan.count;
            case 6: return now.plan.allLongOnes();
            case 7: return now.plan.allOnPage();
            case 8: return now.barsOnPage();
            case 9: return now.hiddenOnPage(now.plan.rows);
            case 10: return text.length;
            case 11: return past.count;
            default: return BAD;
        }
    }

    public int undo() {
        if (past.count <= 0) {
            return STATE;
        }
        past.restore(now.plan);
        now.lay();
        return past.count;
    }

    public long digest() {
        long h = 43104;
        for (int what = 0; what <= 11; what++) {
            h = 31 * h + told(what);
        }
        h = digestEntries(h);
        h = digestWeeks(h);
        h = digestDays(h);
        h = 31 * h + enough();
        return 31 * h + free(1, false);
    }

    private long digestEntries(long before) {
        long h = before;
        for (int e = 0; e < now.plan.count; e++) {
            for (int what = 0; what <= 7; what++) {
                h = 31 * h + entry(e, what);
            }
            for (int week = 0; week < now.weeks; week++) {
                for (int what = 0; what <= 4; what++) {
                    h = 31 * h + bar(e, week, what);
                }
            }
        }
        return h;
    }

    private long digestWeeks(long before) {
        long h = before;
        for (int week = 0; week < now.weeks; week++) {
            for (int what = 0; what <= 5; what++) {
                h = 31 * h + week(week, what);
            }
        }
        return h;
    }

    private long digestDays(long before) {
        long h = before;
        for (int day = now.plan.first; day <= now.plan.last; day++) {
            for (int what = 0; what <= 5; what++) {
                h = 31 * h + day(day, what);
            }
            for (int row = 0; row < MOST_ROWS; row++) {
                h = 31 * h + shown(day, row);
            }
        }
        return h;
    }

    private boolean isEntry(int e) {
        return isWithin(e, 0, now.plan.count - 1);
    }

    private boolean isOnPage(int day) {
        return isWithin(day, now.plan.first, now.plan.last);
    }

    private static boolean isDay(int day) {
        return isWithin(day, 0, LAST_DAY);
    }

    private static boolean isTime(int time) {
        return time == NONE || isWithin(time, 0, LAST_MINUTE);
    }

    private static boolean isRank(int rank) {
        return isWithin(rank, 0, LAST_RANK);
    }

    private static boolean isWithin(int n, int least, int most) {
        return n >= least && n <= most;
    }

    private static int asNumber(boolean yes) {
        return yes ? 1 : 0;
    }

    /** The state that changes record: page, weekday, rows, entries. */
    private static final class Plan {
        int first = 0;
        int last = 30;
        int weekday = 0;
        int rows = 4;
        int count = 0;
        final int[] from = new int[MOST_ENTRIES];
        final int[] to = new int[MOST_ENTRIES];
        final int[] time = new int[MOST_ENTRIES];
        final int[] rank = new int[MOST_ENTRIES];

        void copy(Plan other) {
            first = other.first;
            last = other.last;
            weekday = other.weekday;
            rows = other.rows;
            count = other.count;
            for (int e = 0; e < MOST_ENTRIES; e++) {
                from[e] = other.from[e];
                to[e] = other.to[e];
                time[e] = other.time[e];
                rank[e] = other.rank[e];
            }
        }

        void append(int firstDay, int lastDay, int minute, int weight) {
            if (count >= MOST_ENTRIES) {
                return;
            }
            from[count] = firstDay;
            to[count] = lastDay;
            time[count] = minute;
            rank[count] = weight;
            count++;
        }

        void remove(int e) {
            for (int k = e; k < count - 1; k++) {
                from[k] = from[k + 1];
                to[k] = to[k + 1];
                time[k] = time[k + 1];
                rank[k] = rank[k + 1];
            }
            count--;
        }

        boolean isLong(int e) {
            return to[e] > from[e] || time[e] == NONE;
        }

        /** Whether the entry has a day among these. */
        boolean meets(int e, int firstDay, int lastDay) {
            return from[e] <= lastDay && to[e] >= firstDay;
        }

        int daysOnPage(int e) {
            return Math.max(0, Math.min(to[e], last) - Math.max(from[e], first) + 1);
        }

        int shortOnes(int firstDay, int lastDay) {
            int n = 0;
            for (int e = 0; e < count; e++) {
                if (!isLong(e) && meets(e, firstDay, lastDay)) {
                    n++;
                }
            }
            return n;
        }

        int longOnes(int day) {
            int n = 0;
            for (int e = 0; e < count; e++) {
                if (isLong(e) && meets(e, day, day)) {
                    n++;
                }
            }
            return n;
        }

        int allLongOnes() {
            int n = 0;
            for (int e = 0; e < count; e++) {
                if (isLong(e)) {
                    n++;
                }
            }
            return n;
        }

        int allOnPage() {
            int n = 0;
            for (int e = 0; e < count; e++) {
                if (meets(e, first, last)) {
                    n++;
                }
            }
            return n;
        }
    }

    /** A plan, and where its entries lie. What is laid is that of the plan when lay() was called. */
    private static final class Page {
        final Plan plan = new Plan();
        int weeks = 0;
        // Behind the first days of the weeks stands the day behind the page.
        final int[] weekStart = new int[MOST_WEEKS + 1];
        // The lane of an entry's bar in a week, NONE without a bar.
        final int[][] lane = new int[MOST_ENTRIES][MOST_WEEKS];
        // The row of a short entry on its day, NONE for all others.
        final int[] stackRow = new int[MOST_ENTRIES];
        // For each day of the page its rows that have an entry, a bit a row: two entries of a day
        // are never in one row, so that these bits tell how many entries there are, too.
        final int[] taken = new int[MOST_DAYS];
        final int[] order = new int[MOST_ENTRIES];
        int ordered = 0;

        void lay() {
            cutWeeks();
            wipe();
            for (int week = 0; week < weeks; week++) {
                orderBars(week);
                for (int k = 0; k < ordered; k++) {
                    layBar(order[k], week);
                }
            }
            orderShortOnes();
            for (int k = 0; k < ordered; k++) {
                stack(order[k]);
            }
        }

        private void cutWeeks() {
            weeks = 0;
            for (int day = plan.first; day <= plan.last && weeks < MOST_WEEKS; day++) {
                if (day == plan.first || day % DAYS_OF_WEEK == plan.weekday) {
                    weekStart[weeks] = day;
                    weeks++;
                }
            }
            weekStart[weeks] = plan.last + 1;
        }

        private void wipe() {
            for (int k = 0; k < MOST_DAYS; k++) {
                taken[k] = 0;
            }
            for (int e = 0; e < MOST_ENTRIES; e++) {
                stackRow[e] = NONE;
                for (int week = 0; week < MOST_WEEKS; week++) {
                    lane[e][week] = NONE;
                }
            }
        }

        private void orderBars(int week) {
            ordered = 0;
            for (int e = 0; e < plan.count; e++) {
                if (plan.isLong(e) && plan.meets(e, firstOfWeek(week), lastOfWeek(week))) {
                    int at = ordered;
                    while (at > 0 && isBarBefore(e, order[at - 1], week)) {
                        order[at] = order[at - 1];
                        at--;
                    }
                    order[at] = e;
                    ordered++;
                }
            }
        }

        /** Whether the bar of e is laid before that of other, where e has the greater number. */
        private boolean isBarBefore(int e, int other, int week) {
            boolean began = plan.from[e] < firstOfWeek(week);
            boolean otherBegan = plan.from[other] < firstOfWeek(week);
            if (began != otherBegan) {
                return began;
            }
            if (began) {
                return week > 0 && lane[e][week - 1] < lane[other][week - 1];
            }
            if (plan.from[e] != plan.from[other]) {
                return plan.from[e] < plan.from[other];
            }
            if (plan.to[e] != plan.to[other]) {
                return plan.to[e] > plan.to[other];
            }
            return plan.rank[e] > plan.rank[other];
        }

        private void layBar(int e, int week) {
            int start = Math.max(plan.from[e], firstOfWeek(week)) - plan.first;
            int end = Math.min(plan.to[e], lastOfWeek(week)) - plan.first;
            int used = 0;
            for (int k = start; k <= end; k++) {
                used |= taken[k];
            }
            int before = week > 0 ? lane[e][week - 1] : NONE;
            boolean stays = before != NONE && (used >> before & 1) == 0;
            int place = stays ? before : smallestFree(used);
            lane[e][week] = place;
            for (int k = start; k <= end; k++) {
                taken[k] |= 1 << place;
            }
        }

        private void orderShortOnes() {
            ordered = 0;
            for (int e = 0; e < plan.count; e++) {
                if (!plan.isLong(e) && plan.meets(e, plan.first, plan.last)) {
                    int at = ordered;
                    while (at > 0 && isStackedBefore(e, order[at - 1])) {
                        order[at] = order[at - 1];
                        at--;
                    }
                    order[at] = e;
                    ordered++;
                }
            }
        }

        /** Whether e is stacked before other, where e has the greater number. */
        private boolean isStackedBefore(int e, int other) {
            if (plan.rank[e] != plan.rank[other]) {
                return plan.rank[e] > plan.rank[other];
            }
            return plan.time[e] < plan.time[other];
        }

        private void stack(int e) {
            int k = plan.from[e] - plan.first;
            int row = smallestFree(taken[k]);
            stackRow[e] = row;
            taken[k] |= 1 << row;
        }

        private static int smallestFree(int used) {
            int row = 0;
            while (row < MOST_ENTRIES && (used >> row & 1) != 0) {
                row++;
            }
            return row;
        }

        int firstOfWeek(int week) {
            return weekStart[week];
        }

        int lastOfWeek(int week) {
            return weekStart[week + 1] - 1;
        }

        int weekOfDay(int day) {
            int week = 0;
            while (week + 1 < weeks && weekStart[week + 1] <= day) {
                week++;
            }
            return week;
        }

        int barsInWeek(int week) {
            int n = 0;
            for (int e = 0; e < plan.count; e++) {
                if (lane[e][week] != NONE) {
                    n++;
                }
            }
            return n;
        }

        int lanesInWeek(int week) {
            int lanes = 0;
            for (int e = 0; e < plan.count; e++) {
                lanes = Math.max(lanes, lane[e][week] + 1);
            }
            return lanes;
        }

        int barsOfEntry(int e) {
            int n = 0;
            for (int week = 0; week < weeks; week++) {
                if (lane[e][week] != NONE) {
                    n++;
                }
            }
            return n;
        }

        int barsOnPage() {
            int n = 0;
            for (int week = 0; week < weeks; week++) {
                n += barsInWeek(week);
            }
            return n;
        }

        int rowOnDay(int e, int day) {
            if (!plan.meets(e, day, day)) {
                return NONE;
            }
            return plan.isLong(e) ? lane[e][weekOfDay(day)] : stackRow[e];
        }

        int entryInRow(int day, int row) {
            for (int e = 0; e < plan.count; e++) {
                if (rowOnDay(e, day) == row) {
                    return e;
                }
            }
            return NONE;
        }

        int rowsOnDay(int day) {
            int rows = MOST_ENTRIES;
            while (rows > 0 && (taken[day - plan.first] >> rows - 1 & 1) == 0) {
                rows--;
            }
            return rows;
        }

        int hiddenOnDay(int day, int rows) {
            int used = taken[day - plan.first];
            return used >> rows == 0 ? 0 : Integer.bitCount(used >> rows - 1);
        }

        int hiddenOnDays(int firstDay, int lastDay, int rows) {
            int n = 0;
            for (int day = firstDay; day <= lastDay; day++) {
                n += hiddenOnDay(day, rows);
            }
            return n;
        }

        int hiddenOnPage(int rows) {
            return hiddenOnDays(plan.first, plan.last, rows);
        }

        int daysHidden(int e) {
            int n = 0;
            for (int day = plan.first; day <= plan.last; day++) {
                if (rowOnDay(e, day) >= plan.rows - 1 && hiddenOnDay(day, plan.rows) > 0) {
                    n++;
                }
            }
            return n;
        }

        boolean isEmptyOnDays(int firstDay, int lastDay) {
            for (int day = firstDay; day <= lastDay; day++) {
                if (taken[day - plan.first] != 0) {
                    return false;
                }
            }
            return true;
        }
    }

    /** The remembered states, in a ring of plans that are used again. */
    private static final class Past {
        final Plan[] plans = new Plan[MOST_STATES];
        int oldest = 0;
        int count = 0;

        Past() {
            for (int k = 0; k < MOST_STATES; k++) {
                plans[k] = new Plan();
            }
        }

        void record(Plan plan) {
            plans[(oldest + count) % MOST_STATES].copy(plan);
            if (count < MOST_STATES) {
                count++;
            } else {
                oldest = (oldest + 1) % MOST_STATES;
            }
        }

        void restore(Plan plan) {
            if (count <= 0) {
                return;
            }
            count--;
            plan.copy(plans[(oldest + count) % MOST_STATES]);
        }
    }

    /** The text buffer, and the reading of it. */
    private static final class Text {
        static final int SOUND = -1;

        final int[] bytes = new int[MOST_BYTES];
        int length = 0;
        private int at = 0;
        // Once a fault is found, no function below reads on.
        private int fault = SOUND;

        void append(int c) {
            if (length < MOST_BYTES) {
                bytes[length] = c;
                length++;
            }
        }

        /** Puts the entries told into the plan in place of its own, up to the fault; answers it. */
        int read(Plan plan) {
            at = 0;
            fault = SOUND;
            plan.count = 0;
            for (int e = 0; e <= MOST_ENTRIES && at < length && fault == SOUND; e++) {
                if (e == MOST_ENTRIES) {
                    fault = at;
                } else {
                    readEntry(plan);
                }
            }
            return fault;
        }

        private void readEntry(Plan plan) {
            int first = readDay();
            int last = first;
            if (passes('-')) {
                last = readDay();
                refuseLastDigitIf(last < first);
            }
            int time = NONE;
            if (passes('@')) {
                time = readTime();
            }
            int rank = 0;
            if (passes('!')) {
                rank = readDigit();
            }
            require(';');
            if (fault == SOUND) {
                plan.append(first, last, time, rank);
            }
        }

        private int readDay() {
            int day = readDigit();
            for (int digits = 1; digits < 3 && isAtDigit(); digits++) {
                day = 10 * day + readDigit();
            }
            if (isAtDigit()) {
                fault = at;
            }
            return day;
        }

        private int readTime() {
            int hour = readTwoDigits(23);
            require(':');
            int minute = readTwoDigits(59);
            return 60 * hour + minute;
        }

        private int readTwoDigits(int most) {
            int tens = readDigit();
            int ones = readDigit();
            int n = 10 * tens + ones;
            refuseLastDigitIf(n > most);
            return n;
        }

        private int readDigit() {
            if (isAtDigit()) {
                at++;
                return bytes[at - 1] - '0';
            }
            refuseHere();
            return 0;
        }

        private void require(char c) {
            if (!passes(c)) {
                refuseHere();
            }
        }

        private boolean passes(char c) {
            boolean there = fault == SOUND && at < length && bytes[at] == c;
            if (there) {
                at++;
            }
            return there;
        }

        private boolean isAtDigit() {
            return fault == SOUND && at < length && bytes[at] >= '0' && bytes[at] <= '9';
        }

        private void refuseHere() {
            if (fault == SOUND) {
                fault = at;
            }
        }

        private void refuseLastDigitIf(boolean wrong) {
            if (wrong && fault == SOUND) {
                fault = at - 1;
            }
        }
    }
}
