import java.util.ArrayList;
import java.util.Arrays;
import java.util.HashMap;
import java.util.List;
import java.util.Map;

/** The document once more, written in another way and with the whole Java library: what AnyCallsTest compares with. */
final class SecondReading {
    private static final int BAD = -1, NO = -2, FULL = -3, NONE = -4;

    private static final class Cell {
        int depth, design, cloud, loose;
    }

    private static final class Post {
        Cell at;
        int limit, broken;
    }

    private static final class Spot {
        int holds, may = 1000, away = 2;
    }

    private Cell[][] cells;
    private List<Post> posts;
    private Spot[] spots;
    private int[] tides, table, rules;
    private Map<Integer, Map<Integer, Integer>> sheets;
    private int columns, rows, hour, trips, dug, came, gone, settled, silt;

    SecondReading() {
        reset(1, 1);
    }

    private void reset(int newColumns, int newRows) {
        columns = newColumns;
        rows = newRows;
        cells = new Cell[rows][columns];
        for (Cell[] row : cells) Arrays.setAll(row, c -> new Cell());
        posts = new ArrayList<>();
        spots = new Spot[] {new Spot(), new Spot(), new Spot()};
        tides = new int[12];
        table = new int[31];
        Arrays.setAll(table, t -> t);
        rules = new int[] {5, 100, 50, 80, 0};
        sheets = new HashMap<>();
        hour = trips = dug = came = gone = settled = silt = 0;
    }

    private Cell of(int cell) {
        return cell < 0 || cell >= rows * columns ? null : cells[cell / columns][cell % columns];
    }

    private static boolean out(int v, int least, int most) {
        return v < least || v > most;
    }

    int board(int c, int r) {
        if (out(c, 1, 12) || out(r, 1, 10)) return BAD;
        reset(c, r);
        return c * r;
    }

    int lay(int cell, int what, int v) {
        Cell c = of(cell);
        if (c == null || out(what, 0, 1) || out(v, 0, 400 - 100 * what)) return BAD;
        int was = what == 0 ? c.depth : c.design;
        if (what == 0) c.depth = v;
        else c.design = v;
        return was;
    }

    int rule(int what, int v) {
        int[][] ranges = {{0, 50}, {0, 400}, {0, 400}, {0, 400}, {-1, 1}};
        if (out(what, 0, 4) || out(v, ranges[what][0], ranges[what][1])) return -9;
        int was = rules[what];
        rules[what] = v;
        return was;
    }

    int tide(int h, int v) {
        if (out(h, 0, 11) || out(v, 0, 60)) return BAD;
        int was = tides[h];
        tides[h] = v;
        return was;
    }

    int hold(int t, int v) {
        if (out(t, 1, 30) || out(v, 0, 200)) return BAD;
        int was = table[t];
        Arrays.setAll(table, i -> i == t || i > t && table[i] < v || i < t && table[i] > v ? v : table[i]);
        return was;
    }

    int spot(int s, int most, int away) {
        if (out(s, 0, 2) || out(most, 0, 100000) || out(away, 1, 20)) return BAD;
        if (spots[s].holds > most) return NO;
        spots[s].may = most;
        spots[s].away = away;
        return spots[s].holds;
    }

    int post(int cell, int limit) {
        if (of(cell) == null || out(limit, 0, 10000)) return BAD;
        if (posts.size() == 8) return FULL;
        Post p = new Post();
        p.at = of(cell);
        p.limit = limit;
        posts.add(p);
        return posts.size() - 1;
    }

    int best(int s) {
        if (out(s, 0, 2)) return BAD;
        int found = 30;
        for (int t = 29; t >= 1; t--) {
            long one = (long) table[t] * (found + 120 * spots[s].away);
            long other = (long) table[found] * (t + 120 * spots[s].away);
            if (one >= other) found = t;
        }
        return found;
    }

    /** The hour at which the ship need wait no more, by trying them one after the other. */
    private int waited(int from, int draught) {
        int h = from;
        while (tides[h % 12] + rules[1] < draught) h++;
        return h;
    }

    int trip(int r, int a, int b, int t, int s) {
        if (out(r, 0, rows - 1) || out(a, 0, columns - 1) || out(b, 0, columns - 1) || out(t, 0, 30) || out(s, 0, 2)) return BAD;
        List<Cell> along = new ArrayList<>();
        for (int c = a; ; c += Integer.signum(b - a)) {
            along.add(cells[r][c]);
            if (c == b) break;
        }
        List<Cell> done = new ArrayList<>();
        boolean again = true;
        while (again) {
            again = false;
            for (Cell c : along) {
                if (done.size() == table[t]) break;
                if (c.design == 0 || c.depth + 1 > c.design + rules[0]) continue;
                c.depth++;
                done.add(c);
                again = true;
            }
        }
        int load = done.size();
        int highest = rules[1] + Arrays.stream(tides).max().getAsInt();
        int refusal = 0;
        int end = 0;
        if (spots[s].holds + load > spots[s].may || highest < rules[2] || load > 0 && highest < rules[3]) {
            refusal = NO;
        } else {
            end = waited(hour + 1, load > 0 ? rules[3] : rules[2]) + spots[s].away;
            end = waited(end, rules[2]) + spots[s].away;
            if (end > 5000) refusal = FULL;
        }
        if (refusal != 0) {
            for (Cell c : done) c.depth--;
            return refusal;
        }
        int overflow = 4 * t > load ? 4 * t - load : 0;
        (load > 0 ? done.get(load - 1) : along.get(0)).cloud += overflow;
        came += overflow;
        spots[s].holds += load;
        dug += load;
        trips++;
        while (hour < end) pass();
        return load;
    }

    int hours(int n) {
        if (out(n, 1, 200)) return BAD;
        if (hour + n > 5000) return FULL;
        for (int end = hour + n; hour < end; ) pass();
        return hour;
    }

    private void pass() {
        for (Cell[] row : cells) drift(row);
        for (Post p : posts) if (p.at.cloud > p.limit) p.broken++;
        hour++;
        if (hour % 24 == 0) silt();
    }

    private void drift(Cell[] row) {
        int[] ahead = Arrays.stream(row).mapToInt(c -> c.cloud).toArray();
        for (int c = 0; c < columns; c++) {
            Cell cell = row[c];
            int from = c - rules[4];
            int half = rules[4] == 0 ? 0 : ahead[c] / 2;
            int in = rules[4] == 0 || from < 0 || from >= columns ? 0 : ahead[from] / 2;
            if (c + rules[4] < 0 || c + rules[4] >= columns) gone += half;
            cell.cloud = ahead[c] - half - ahead[c] / 4 + in;
            settled += ahead[c] / 4;
            for (int i = 0; i < ahead[c] / 4; i++) {
                cell.loose++;
                if (cell.loose == 4) {
                    cell.loose = 0;
                    if (cell.depth > 0) cell.depth--;
                }
            }
        }
    }

    private void silt() {
        List<Cell> rising = new ArrayList<>();
        for (int r = 0; r < rows; r++) {
            for (int c = 0; c < columns; c++) {
                List<Cell> around = new ArrayList<>();
                if (r > 0) around.add(cells[r - 1][c]);
                if (r < rows - 1) around.add(cells[r + 1][c]);
                if (c > 0) around.add(cells[r][c - 1]);
                if (c < columns - 1) around.add(cells[r][c + 1]);
                if (around.isEmpty() || cells[r][c].design == 0) continue;
                int mean = (int) Math.floor(around.stream().mapToInt(x -> x.depth).average().getAsDouble());
                if (cells[r][c].depth > mean) rising.add(cells[r][c]);
            }
        }
        for (Cell c : rising) c.depth--;
        silt += rising.size();
    }

    int sound(int s) {
        if (out(s, 0, 5)) return BAD;
        Map<Integer, Integer> sheet = new HashMap<>();
        for (int c = 0; c < rows * columns; c++) sheet.put(c, of(c).depth);
        sheets.put(s, sheet);
        return 0;
    }

    int lose(int s, int cell) {
        if (out(s, 0, 5) || of(cell) == null) return BAD;
        if (!sheets.containsKey(s)) return NO;
        return sheets.get(s).remove(cell) == null ? 0 : 1;
    }

    int join(int s, int t) {
        if (out(s, 0, 5) || out(t, 0, 5)) return BAD;
        if (!sheets.containsKey(s) || !sheets.containsKey(t)) return NO;
        int before = sheets.get(s).size();
        for (int c : new ArrayList<>(sheets.get(t).keySet())) sheets.get(s).putIfAbsent(c, sheets.get(t).get(c));
        return sheets.get(s).size() - before;
    }

    int between(int s, int t, int what) {
        if (out(s, 0, 5) || out(t, 0, 5) || out(what, 0, 2)) return -1000001;
        if (!sheets.containsKey(s) || !sheets.containsKey(t)) return -1000002;
        int volume = 0, pay = 0, unknown = 0;
        for (int c = 0; c < rows * columns; c++) {
            Integer from = sheets.get(s).get(c), to = sheets.get(t).get(c);
            int design = of(c).design;
            if (from == null || to == null) {
                if (design > 0) unknown++;
                continue;
            }
            volume += to - from;
            if (design == 0 || to < design) continue;
            for (int d = from; d < to; d++) if (d + 1 <= design + rules[0]) pay++;
        }
        return what == 0 ? volume : what == 1 ? pay : unknown;
    }

    int sounded(int s, int cell) {
        if (out(s, 0, 5) || of(cell) == null) return BAD;
        if (!sheets.containsKey(s)) return NO;
        return sheets.get(s).getOrDefault(cell, NONE);
    }

    int cell(int cell, int what) {
        Cell c = of(cell);
        if (c == null || out(what, 0, 3)) return BAD;
        return new int[] {c.depth, c.design, c.cloud, c.loose}[what];
    }

    int about(int s, int what) {
        if (out(s, 0, 2) || out(what, 0, 2)) return BAD;
        return new int[] {spots[s].holds, spots[s].may, spots[s].away}[what];
    }

    int broken(int p) {
        return p < 0 || p >= posts.size() ? BAD : posts.get(p).broken;
    }

    int count(int what) {
        int unfinished = 0;
        for (Cell[] row : cells) for (Cell c : row) if (c.design > c.depth) unfinished++;
        int[] all = {columns, rows, hour, trips, dug, came, gone, settled, silt, unfinished, posts.size()};
        return out(what, 0, 10) ? BAD : all[what];
    }
}
