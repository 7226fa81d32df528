/** Deepened ways: dredging a drawn channel by trips, tides, soundings, silt and drifting clouds. */
public final class DredgeWays {
    public static final int BAD = -1, NO = -2, FULL = -3, NONE = -4;

    private static final int BAD_RULE = -9, BAD_BETWEEN = -1000001, NO_BETWEEN = -1000002;

    private static final int MOST_COLUMNS = 12, MOST_ROWS = 10, MOST_CELLS = MOST_COLUMNS * MOST_ROWS;
    private static final int MOST_DEPTH = 400, MOST_DESIGN = 300;
    private static final int DAY = 24, ROUND = 12, MOST_TIDE = 60;
    private static final int MOST_HOUR = 5000, MOST_HOURS_AT_ONCE = 200;
    private static final int MOST_MINUTES = 30, MOST_LOAD = 200, PUMPED_A_MINUTE = 4;
    private static final int SPOTS = 3, FIRST_MOST = 1000, MOST_OF_SPOT = 100000, FIRST_AWAY = 2, MOST_AWAY = 20;
    private static final int MOST_POSTS = 8, MOST_LIMIT = 10000;
    private static final int SHEETS = 6;

    private static final int OVER = 0, SILL = 1, EMPTY = 2, LADEN = 3, CURRENT = 4, RULES = 5;

    private final Numbers rules = new Numbers(RULES);
    private final Ground ground = new Ground();
    private final Clouds clouds = new Clouds();
    private final Tides tides = new Tides();
    private final Ship ship = new Ship();
    private final Pass pass = new Pass();
    private final Spots spots = new Spots();
    private final Posts posts = new Posts();
    private final Sheets sheets = new Sheets();
    private int hour;
    private int trips;
    private int dug;

    public DredgeWays() {
        startAnew(1, 1);
    }

    public int board(int columns, int rows) {
        if (!within(columns, 1, MOST_COLUMNS) || !within(rows, 1, MOST_ROWS)) return BAD;
        startAnew(columns, rows);
        return ground.size();
    }

    public int lay(int cell, int what, int v) {
        if (!ground.has(cell) || !within(what, 0, 1)) return BAD;
        if (!within(v, 0, what == 0 ? MOST_DEPTH : MOST_DESIGN)) return BAD;
        return what == 0 ? ground.depth.put(cell, v) : ground.design.put(cell, v);
    }

    public int rule(int what, int v) {
        if (!within(what, 0, RULES - 1) || !within(v, leastOfRule(what), mostOfRule(what))) return BAD_RULE;
        return rules.put(what, v);
    }

    public int tide(int hour, int v) {
        if (!within(hour, 0, ROUND - 1) || !within(v, 0, MOST_TIDE)) return BAD;
        return tides.heights.put(hour, v);
    }

    public int hold(int t, int v) {
        if (!within(t, 1, MOST_MINUTES) || !within(v, 0, MOST_LOAD)) return BAD;
        return ship.setTable(t, v);
    }

    public int spot(int spot, int most, int hours) {
        if (!spots.has(spot) || !within(most, 0, MOST_OF_SPOT) || !within(hours, 1, MOST_AWAY)) return BAD;
        if (spots.held.get(spot) > most) return NO;
        spots.most.put(spot, most);
        spots.away.put(spot, hours);
        return spots.held.get(spot);
    }

    public int post(int cell, int limit) {
        if (!ground.has(cell) || !within(limit, 0, MOST_LIMIT)) return BAD;
        return posts.isFull() ? FULL : posts.put(cell, limit);
    }

    public int best(int spot) {
        if (!spots.has(spot)) return BAD;
        return ship.bestMinutes(spots.away.get(spot));
    }

    public int trip(int row, int a, int b, int t, int spot) {
        if (!ground.hasRow(row) || !ground.hasColumn(a) || !ground.hasColumn(b)) return BAD;
        if (!within(t, 0, MOST_MINUTES) || !spots.has(spot)) return BAD;
        pass.plan(ground, row, a, b, ship.table.get(t), rules.get(OVER));
        if (!spots.hasRoom(spot, pass.load)) return NO;
        int home = homeHour(pass.load, spots.away.get(spot));
        if (home == Tides.NEVER) return NO;
        if (home > MOST_HOUR) return FULL;
        carryOut(t, spot);
        passHours(home - hour);
        return pass.load;
    }

    public int hours(int n) {
        if (!within(n, 1, MOST_HOURS_AT_ONCE)) return BAD;
        if (hour + n > MOST_HOUR) return FULL;
        passHours(n);
        return hour;
    }

    public int sound(int s) {
        if (!sheets.has(s)) return BAD;
        sheets.take(s, ground);
        return 0;
    }

    public int lose(int s, int cell) {
        if (!sheets.has(s) || !ground.has(cell)) return BAD;
        if (sheets.isMissing(s)) return NO;
        return sheets.makeGap(s, cell) ? 1 : 0;
    }

    public int join(int s, int t) {
        if (!sheets.has(s) || !sheets.has(t)) return BAD;
        if (sheets.isMissing(s) || sheets.isMissing(t)) return NO;
        return sheets.fillGaps(s, t, ground.size());
    }

    public int between(int s, int t, int what) {
        if (!sheets.has(s) || !sheets.has(t) || !within(what, 0, 2)) return BAD_BETWEEN;
        if (sheets.isMissing(s) || sheets.isMissing(t)) return NO_BETWEEN;
        if (what == 0) return sheets.volume(s, t, ground.size());
        if (what == 1) return sheets.pay(s, t, ground, rules.get(OVER));
        return sheets.unknown(s, t, ground);
    }

    public int sounded(int s, int cell) {
        if (!sheets.has(s) || !ground.has(cell)) return BAD;
        return sheets.isMissing(s) ? NO : sheets.read(s, cell);
    }

    public int cell(int cell, int what) {
        if (!ground.has(cell)) return BAD;
        switch (what) {
            case 0: return ground.depth.get(cell);
            case 1: return ground.design.get(cell);
            case 2: return clouds.afloat.get(cell);
            case 3: return clouds.loose.get(cell);
            default: return BAD;
        }
    }

    public int about(int spot, int what) {
        if (!spots.has(spot)) return BAD;
        switch (what) {
            case 0: return spots.held.get(spot);
            case 1: return spots.most.get(spot);
            case 2: return spots.away.get(spot);
            default: return BAD;
        }
    }

    public int broken(int post) {
        return posts.has(post) ? posts.brokenHours.get(post) : BAD;
    }

    public int count(int what) {
        switch (what) {
            case 0: return ground.columns;
            case 1: return ground.rows;
            case 2: return hour;
            case 3: return trips;
            case 4: return dug;
            case 5: return clouds.came;
            case 6: return clouds.gone;
            case 7: return clouds.settled;
            case 8: return ground.silt;
            case 9: return ground.unfinished();
            case 10: return posts.size;
            default: return BAD;
        }
    }

    private void startAnew(int columns, int rows) {
        ground.start(columns, rows);
        clouds.start();
        tides.heights.fill(0);
        ship.start();
        spots.start();
        posts.size = 0;
        sheets.start();
        startRules();
        hour = 0;
        trips = 0;
        dug = 0;
    }

    private void startRules() {
        rules.put(OVER, 5);
        rules.put(SILL, 100);
        rules.put(EMPTY, 50);
        rules.put(LADEN, 80);
        rules.put(CURRENT, 0);
    }

    private static int leastOfRule(int what) {
        return what == CURRENT ? -1 : 0;
    }

    private static int mostOfRule(int what) {
        if (what == OVER) return 50;
        return what == CURRENT ? 1 : 400;
    }

    private static boolean within(int v, int least, int most) {
        return v >= least && v <= most;
    }

    /** The hour in which a trip that begins now would be back, or NEVER. */
    private int homeHour(int load, int away) {
        int draught = rules.get(load == 0 ? EMPTY : LADEN);
        int out = tides.firstEnough(hour + 1, draught - rules.get(SILL));
        if (out == Tides.NEVER) return Tides.NEVER;
        int back = tides.firstEnough(out + away, rules.get(EMPTY) - rules.get(SILL));
        return back == Tides.NEVER ? Tides.NEVER : back + away;
    }

    private void carryOut(int t, int spot) {
        pass.digPlanned(ground);
        clouds.come(pass.last, Math.max(0, t * PUMPED_A_MINUTE - pass.load));
        spots.held.add(spot, pass.load);
        dug += pass.load;
        trips++;
    }

    private void passHours(int n) {
        for (int i = 0; i < n; i++) endHour();
    }

    private void endHour() {
        hour++;
        clouds.drift(ground, rules.get(CURRENT));
        posts.watch(clouds);
        if (hour % DAY == 0) ground.siltUp();
    }

    /** A row of numbers in which no index is used unseen: outside of it all is 0 and stays so. */
    private static final class Numbers {
        private final int[] items;

        Numbers(int length) {
            items = new int[Math.max(0, length)];
        }

        int get(int i) {
            return i >= 0 && i < items.length ? items[i] : 0;
        }

        /** Answers what was there. */
        int put(int i, int v) {
            if (i < 0 || i >= items.length) return 0;
            int was = items[i];
            items[i] = v;
            return was;
        }

        void add(int i, int v) {
            put(i, get(i) + v);
        }

        void fill(int v) {
            for (int i = 0; i < items.length; i++) items[i] = v;
        }
    }

    /** The board: its cells' depths and design, and the silt that comes back. */
    private static final class Ground {
        final Numbers depth = new Numbers(MOST_CELLS);
        final Numbers design = new Numbers(MOST_CELLS);
        private final Numbers silting = new Numbers(MOST_CELLS);
        int columns;
        int rows;
        int silt;

        void start(int newColumns, int newRows) {
            columns = newColumns;
            rows = newRows;
            silt = 0;
            depth.fill(0);
            design.fill(0);
        }

        int size() {
            return columns * rows;
        }

        boolean has(int cell) {
            return within(cell, 0, size() - 1);
        }

        boolean hasRow(int row) {
            return within(row, 0, rows - 1);
        }

        boolean hasColumn(int column) {
            return within(column, 0, columns - 1);
        }

        int number(int row, int column) {
            return row * columns + column;
        }

        /** How much of a cell may still be dug. */
        int room(int cell, int over) {
            if (design.get(cell) == 0) return 0;
            return Math.max(0, design.get(cell) + over - depth.get(cell));
        }

        int unfinished() {
            int found = 0;
            for (int c = 0; c < size(); c++) {
                if (depth.get(c) < design.get(c)) found++;
            }
            return found;
        }

        void raise(int cell, int by) {
            depth.put(cell, Math.max(0, depth.get(cell) - by));
        }

        void siltUp() {
            // All cells are judged before one is raised: each is judged by the others as they were ahead.
            for (int row = 0; row < rows; row++) {
                for (int column = 0; column < columns; column++) {
                    silting.put(number(row, column), gathersSilt(row, column) ? 1 : 0);
                }
            }
            for (int c = 0; c < size(); c++) {
                raise(c, silting.get(c));
                silt += silting.get(c);
            }
        }

        private boolean gathersSilt(int row, int column) {
            int c = number(row, column);
            if (design.get(c) == 0) return false;
            int sum = 0;
            int neighbours = 0;
            for (int side = -1; side <= 1; side += 2) {
                if (hasRow(row + side)) {
                    sum += depth.get(number(row + side, column));
                    neighbours++;
                }
                if (hasColumn(column + side)) {
                    sum += depth.get(number(row, column + side));
                    neighbours++;
                }
            }
            return neighbours > 0 && depth.get(c) > sum / neighbours;
        }
    }

    /** What overflowed: where it is afloat, and what settled but is not yet one of depth. */
    private static final class Clouds {
        private static final int A_DEPTH = 4;

        final Numbers afloat = new Numbers(MOST_CELLS);
        final Numbers loose = new Numbers(MOST_CELLS);
        private final Numbers next = new Numbers(MOST_CELLS);
        int came;
        int gone;
        int settled;

        void start() {
            afloat.fill(0);
            loose.fill(0);
            came = 0;
            gone = 0;
            settled = 0;
        }

        void come(int cell, int much) {
            afloat.add(cell, much);
            came += much;
        }

        void drift(Ground ground, int current) {
            // What drifts in must not drift on in the same hour, so it is gathered aside.
            next.fill(0);
            for (int row = 0; row < ground.rows; row++) {
                for (int column = 0; column < ground.columns; column++) {
                    int c = ground.number(row, column);
                    int settling = afloat.get(c) / 4;
                    int drifting = current == 0 ? 0 : afloat.get(c) / 2;
                    next.add(c, afloat.get(c) - settling - drifting);
                    settle(ground, c, settling);
                    driftOn(ground, row, column + current, drifting);
                }
            }
            for (int c = 0; c < ground.size(); c++) afloat.put(c, next.get(c));
        }

        private void driftOn(Ground ground, int row, int column, int much) {
            if (ground.hasColumn(column)) {
                next.add(ground.number(row, column), much);
            } else {
                gone += much;
            }
        }

        private void settle(Ground ground, int cell, int much) {
            int all = loose.get(cell) + much;
            // Whole fours count as come down even where the depth is 0 already.
            ground.raise(cell, all / A_DEPTH);
            loose.put(cell, all % A_DEPTH);
            settled += much;
        }
    }

    /** The tides of the twelve hours that come round again and again. */
    private static final class Tides {
        static final int NEVER = -1;

        final Numbers heights = new Numbers(ROUND);

        /** The first hour from one on whose tide is high enough, or NEVER. */
        int firstEnough(int from, int height) {
            for (int h = from; h < from + ROUND; h++) {
                if (heights.get(h % ROUND) >= height) return h;
            }
            return NEVER;
        }
    }

    /** The table of the ship's hold. */
    private static final class Ship {
        private static final int SAILING_MINUTES = 120;

        final Numbers table = new Numbers(MOST_MINUTES + 1);

        void start() {
            for (int t = 0; t <= MOST_MINUTES; t++) table.put(t, t);
        }

        /** Answers what was there; the table is kept from falling. */
        int setTable(int t, int v) {
            int was = table.get(t);
            for (int i = 1; i < t; i++) table.put(i, Math.min(v, table.get(i)));
            table.put(t, v);
            for (int i = t + 1; i <= MOST_MINUTES; i++) table.put(i, Math.max(v, table.get(i)));
            return was;
        }

        int bestMinutes(int away) {
            int sailing = SAILING_MINUTES * away;
            int found = 1;
            for (int t = 2; t <= MOST_MINUTES; t++) {
                // Multiplied crosswise, so that no quotient is cut.
                if (table.get(t) * (found + sailing) > table.get(found) * (t + sailing)) found = t;
            }
            return found;
        }
    }

    /** What a trip would dig. It is planned first, since a refused trip leaves all as it was. */
    private static final class Pass {
        private final Numbers planned = new Numbers(MOST_COLUMNS);
        private int row;
        int load;
        int last;

        void plan(Ground ground, int alongRow, int a, int b, int wanted, int over) {
            planned.fill(0);
            row = alongRow;
            load = 0;
            last = ground.number(row, a);
            // Each run but the last digs one at least, so more runs than a full hold are never needed.
            boolean digging = true;
            for (int run = 0; run < MOST_LOAD && digging; run++) {
                digging = planRun(ground, a, b, wanted, over);
            }
        }

        private boolean planRun(Ground ground, int a, int b, int wanted, int over) {
            int before = load;
            int step = a <= b ? 1 : -1;
            int length = Math.abs(b - a) + 1;
            for (int i = 0; i < length && load < wanted; i++) {
                planCell(ground, a + i * step, over);
            }
            return load > before;
        }

        private void planCell(Ground ground, int column, int over) {
            int c = ground.number(row, column);
            if (planned.get(column) >= ground.room(c, over)) return;
            planned.add(column, 1);
            load++;
            last = c;
        }

        void digPlanned(Ground ground) {
            for (int column = 0; column < ground.columns; column++) {
                ground.depth.add(ground.number(row, column), planned.get(column));
            }
        }
    }

    /** The spots to which the stuff is brought. */
    private static final class Spots {
        final Numbers held = new Numbers(SPOTS);
        final Numbers most = new Numbers(SPOTS);
        final Numbers away = new Numbers(SPOTS);

        void start() {
            held.fill(0);
            most.fill(FIRST_MOST);
            away.fill(FIRST_AWAY);
        }

        boolean has(int spot) {
            return within(spot, 0, SPOTS - 1);
        }

        boolean hasRoom(int spot, int load) {
            return held.get(spot) + load <= most.get(spot);
        }
    }

    /** The posts that must stay clear. */
    private static final class Posts {
        private final Numbers places = new Numbers(MOST_POSTS);
        private final Numbers limits = new Numbers(MOST_POSTS);
        final Numbers brokenHours = new Numbers(MOST_POSTS);
        int size;

        boolean has(int post) {
            return within(post, 0, size - 1);
        }

        boolean isFull() {
            return size >= MOST_POSTS;
        }

        int put(int cell, int limit) {
            places.put(size, cell);
            limits.put(size, limit);
            brokenHours.put(size, 0);
            size++;
            return size - 1;
        }

        void watch(Clouds clouds) {
            for (int p = 0; p < size; p++) {
                if (clouds.afloat.get(places.get(p)) > limits.get(p)) brokenHours.add(p, 1);
            }
        }
    }

    /** The sheets of soundings. */
    private static final class Sheets {
        private final Numbers depths = new Numbers(SHEETS * MOST_CELLS);
        private final Numbers taken = new Numbers(SHEETS);

        void start() {
            taken.fill(0);
        }

        boolean has(int s) {
            return within(s, 0, SHEETS - 1);
        }

        boolean isMissing(int s) {
            return taken.get(s) == 0;
        }

        int read(int s, int cell) {
            return depths.get(s * MOST_CELLS + cell);
        }

        private void write(int s, int cell, int v) {
            depths.put(s * MOST_CELLS + cell, v);
        }

        private boolean knows(int s, int cell) {
            return read(s, cell) != NONE;
        }

        private boolean bothKnow(int s, int t, int cell) {
            return knows(s, cell) && knows(t, cell);
        }

        void take(int s, Ground ground) {
            taken.put(s, 1);
            for (int c = 0; c < ground.size(); c++) write(s, c, ground.depth.get(c));
        }

        /** Answers whether the cell was known. */
        boolean makeGap(int s, int cell) {
            boolean known = knows(s, cell);
            write(s, cell, NONE);
            return known;
        }

        int fillGaps(int s, int t, int cells) {
            int got = 0;
            for (int c = 0; c < cells; c++) {
                if (!knows(s, c) && knows(t, c)) {
                    write(s, c, read(t, c));
                    got++;
                }
            }
            return got;
        }

        int volume(int s, int t, int cells) {
            int sum = 0;
            for (int c = 0; c < cells; c++) {
                if (bothKnow(s, t, c)) sum += read(t, c) - read(s, c);
            }
            return sum;
        }

        int pay(int s, int t, Ground ground, int over) {
            int sum = 0;
            for (int c = 0; c < ground.size(); c++) {
                int design = ground.design.get(c);
                if (design > 0 && bothKnow(s, t, c) && read(t, c) >= design) {
                    sum += Math.max(0, Math.min(read(t, c), design + over) - read(s, c));
                }
            }
            return sum;
        }

        int unknown(int s, int t, Ground ground) {
            int found = 0;
            for (int c = 0; c < ground.size(); c++) {
                if (ground.design.get(c) > 0 && !bothKnow(s, t, c)) found++;
            }
            return found;
        }
    }
}
