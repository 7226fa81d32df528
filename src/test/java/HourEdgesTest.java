/** Edges of part 3 (promises 2, 8, 11, 17, 19 and 20): HOURS, CLOUDS that drift and settle, POSTS, SILT. */
public final class HourEdgesTest {
    private static final int BAD = -1, FULL = -3;
    private static final int CURRENT = 4;
    private static final Checks checks = new Checks("HourEdgesTest");

    public static void main(String[] args) {
        hoursOneByOne();
        halfCutDrifts();
        quarterCutSettles();
        noneDrifts();
        driftsOffTheRight();
        driftsOffTheLeft();
        oneColumn();
        allCloudsAsAhead();
        depthByFours();
        depthNotBelowNothing();
        nothingMoreAtNoDepth();
        cloudsKeepToTheirRow();
        postAtItsLimit();
        postAtNoLimit();
        postSeesTheEndOfTheHour();
        postBeginsWhenItIsThere();
        siltEach24thHour();
        siltWithinATrip();
        siltOfDrawnCells();
        siltAboveTheMean();
        siltByMeanThatIsCut();
        siltOfCornersAndSides();
        siltBySidesAlone();
        siltKeepsToRowsAndColumns();
        siltOfLoneAndPairedCells();
        siltDownToNothing();
        siltAllAsAhead();
        siltOfAGreaterBoard();
        boardAnewInTheDay();
        lastCall();
        checks.end();
    }

    private static void due(String call, long got, long want) {
        checks.due(call, got, want);
    }

    private static void dueCells(String after, DredgeWays x, int what, int... want) {
        for (int c = 0; c < want.length; c++) due(after + ": cell(" + c + ", " + what + ")", x.cell(c, what), want[c]);
    }

    /** CLOUDS of 3 in these cells, which neither drift nor settle as long as the CURRENT is 0; a depth of 9 in all. */
    private static DredgeWays threes(int columns, int rows, int... cells) {
        DredgeWays x = Boards.undrawn(columns, rows);
        for (int c = 0; c < columns * rows; c++) x.lay(c, 0, 9);
        for (int c : cells) due("LOAD", x.trip(c / columns, c % columns, c % columns, 1, 0), 0);
        return x;
    }

    // Promise 11: "n HOURS (1 to 200) go by"; HOURS go on from 0.
    private static void hoursOneByOne() {
        DredgeWays x = new DredgeWays();
        due("at first", x.count(2), 0);
        for (int n = 1; n <= 60; n++) due("one by one", x.hours(1), n);
        for (int hour = 260; hour <= 4860; hour += 200) due("by 200", x.hours(200), hour);
        due("141 beyond", x.hours(141), FULL);
        due("140 to 5000", x.hours(140), 5000);
        due("one beyond", x.hours(1), FULL);
        due("HOUR", x.count(2), 5000);
    }

    // "of each CELL's CLOUD half, cut, drifts one column on": of 3 and of 2 one, of 1 none.
    private static void halfCutDrifts() {
        DredgeWays x = threes(3, 1, 0);
        dueCells("3", x, 2, 3, 0, 0);
        x.rule(CURRENT, 1);
        x.hours(1);
        dueCells("of 3 one", x, 2, 2, 1, 0);
        x.hours(1);
        dueCells("of 2 one, of 1 none", x, 2, 1, 2, 0);
        x.hours(1);
        dueCells("of 2 one", x, 2, 1, 1, 1);
        x.hours(200);
        dueCells("of 1 none", x, 2, 1, 1, 1);
        due("none drifted off", x.count(6), 0);
        due("settled at first alone", x.count(7), 1);
    }

    // "a quarter, cut, settles; the rest stays": of 4 one, of 3 none.
    private static void quarterCutSettles() {
        DredgeWays x = Boards.undrawn(1, 1);
        x.trip(0, 0, 0, 1, 0);
        due("of 4 one", x.count(7), 1);
        due("of 4 one", x.cell(0, 2), 3);
        due("of 4 one", x.cell(0, 3), 1);
        x.hours(200);
        due("of 3 none", x.count(7), 1);
        due("of 3 none", x.cell(0, 2), 3);
        // 3 and 8 are 11, then 9, 7, 6.
        x.trip(0, 0, 0, 2, 0);
        due("of 11 and 9 two, of 7 one", x.count(7), 6);
        due("of 11 and 9 two, of 7 one", x.cell(0, 2), 6);
        // 6, 5, 4, 3.
        int[] left = {5, 4, 3, 3};
        for (int v : left) {
            x.hours(1);
            due("one an HOUR down to 3", x.cell(0, 2), v);
        }
    }

    // "0: none drifts".
    private static void noneDrifts() {
        DredgeWays x = Boards.undrawn(3, 1);
        x.trip(0, 1, 1, 30, 0);
        // 120, then 90, 68, 51.
        dueCells("none drifts", x, 2, 0, 51, 0);
        due("none off", x.count(6), 0);
        due("settled", x.count(7), 69);
    }

    // "1 to the right"; "What drifts off THE BOARD is gone".
    private static void driftsOffTheRight() {
        DredgeWays x = threes(2, 2, 1);
        x.rule(CURRENT, 1);
        x.hours(1);
        dueCells("from the last column", x, 2, 0, 2, 0, 0);
        due("one off", x.count(6), 1);
        x.hours(1);
        dueCells("from the last column", x, 2, 0, 1, 0, 0);
        due("two off", x.count(6), 2);
        x.hours(50);
        due("no more off", x.count(6), 2);
        DredgeWays y = threes(2, 2, 2);
        y.rule(CURRENT, 1);
        y.hours(1);
        dueCells("to the last column", y, 2, 0, 0, 2, 1);
        due("none off", y.count(6), 0);
    }

    // "-1 to the left".
    private static void driftsOffTheLeft() {
        DredgeWays x = threes(2, 2, 2);
        x.rule(CURRENT, -1);
        x.hours(1);
        dueCells("from the first column", x, 2, 0, 0, 2, 0);
        due("one off", x.count(6), 1);
        DredgeWays y = threes(2, 2, 1);
        y.rule(CURRENT, -1);
        y.hours(1);
        dueCells("to the first column", y, 2, 1, 2, 0, 0);
        due("none off", y.count(6), 0);
        DredgeWays z = threes(2, 2, 0);
        z.rule(CURRENT, -1);
        z.hours(1);
        dueCells("from the first cell", z, 2, 2, 0, 0, 0);
        due("one off", z.count(6), 1);
    }

    private static void oneColumn() {
        for (int current = -1; current <= 1; current++) {
            DredgeWays x = threes(1, 3, 0, 1, 2);
            x.rule(CURRENT, current);
            x.hours(1);
            int stays = current == 0 ? 3 : 2;
            dueCells("one column, CURRENT " + current, x, 2, stays, stays, stays);
            due("one column, CURRENT " + current + ": off", x.count(6), current == 0 ? 0 : 3);
        }
    }

    // "(All CLOUDS as they were ahead.)": 3 3 are 2 3 1 or 1 3 2.
    private static void allCloudsAsAhead() {
        DredgeWays x = threes(3, 1, 0, 1);
        x.rule(CURRENT, 1);
        x.hours(1);
        dueCells("to the right", x, 2, 2, 3, 1);
        dueCells("nothing that came in settled", x, 3, 1, 1, 0);
        DredgeWays y = threes(3, 1, 1, 2);
        y.rule(CURRENT, -1);
        y.hours(1);
        dueCells("to the left", y, 2, 1, 3, 2);
        dueCells("nothing that came in settled", y, 3, 0, 1, 1);
    }

    // "DEPTH less in that CELL, one for each 4 that settled there ever since (kept by fours)": 7 are 6, 5, 4, 3.
    private static void depthByFours() {
        DredgeWays x = Boards.row(10, 5);
        x.spot(0, 1000, 1);
        x.hold(2, 1);
        due("LOAD", x.trip(0, 0, 0, 2, 0), 1);
        due("3 settled", x.count(7), 3);
        due("3 are kept", x.cell(0, 3), 3);
        due("3 are none of DEPTH", x.cell(0, 0), 6);
        x.hours(1);
        due("4 settled", x.count(7), 4);
        due("4 are not kept", x.cell(0, 3), 0);
        due("4 are one of DEPTH", x.cell(0, 0), 5);
        x.hours(18);
        due("no more settled", x.count(7), 4);
        due("no more", x.cell(0, 0), 5);
    }

    // "not below 0": 9 settle of 16 in three HOURS.
    private static void depthNotBelowNothing() {
        int[][] depths = {{0, 0}, {1, 0}, {2, 0}, {3, 1}, {4, 2}, {400, 398}};
        for (int[] d : depths) {
            DredgeWays x = Boards.undrawn(1, 1);
            x.lay(0, 0, d[0]);
            x.trip(0, 0, 0, 4, 0);
            due("settled", x.count(7), 9);
            due("DEPTH of " + d[0], x.cell(0, 0), d[1]);
            due("kept, DEPTH of " + d[0], x.cell(0, 3), 1);
        }
    }

    // "(nothing more then)": what came down at DEPTH 0 is not taken from a DEPTH laid later, but for what is kept.
    private static void nothingMoreAtNoDepth() {
        DredgeWays x = Boards.undrawn(1, 1);
        x.trip(0, 0, 0, 4, 0);
        due("lay at DEPTH 0", x.lay(0, 0, 5), 0);
        due("kept", x.cell(0, 3), 1);
        x.hours(2);
        // 7, then 6, 5.
        due("11 settled", x.count(7), 11);
        due("DEPTH", x.cell(0, 0), 5);
        x.hours(1);
        due("12 settled", x.count(7), 12);
        due("DEPTH", x.cell(0, 0), 4);
    }

    private static void cloudsKeepToTheirRow() {
        DredgeWays x = Boards.undrawn(4, 3);
        x.rule(CURRENT, 1);
        x.trip(1, 0, 0, 30, 0);
        // 120, then 30 60, then 8 30 30, then 2 12 23 15.
        dueCells("in its row alone", x, 2, 0, 0, 0, 0, 2, 12, 23, 15, 0, 0, 0, 0);
        dueCells("settled in its row alone", x, 0, 0, 0, 0, 0, 0, 0, 0, 0, 0, 0, 0, 0);
        due("none off yet", x.count(6), 0);
        due("all is somewhere", x.count(7) + 2 + 12 + 23 + 15, 120);
    }

    // Promises 8 and 19: "BROKEN in an HOUR at whose end its CLOUD is above that".
    private static void postAtItsLimit() {
        DredgeWays x = threes(2, 1, 0);
        x.post(0, 2);
        x.post(0, 3);
        x.post(0, 4);
        x.post(1, 0);
        x.post(0, 10000);
        due("none yet", x.broken(0), 0);
        for (int n = 1; n <= 5; n++) {
            x.hours(1);
            due("3 is above 2", x.broken(0), n);
            due("3 is not above 3", x.broken(1), 0);
            due("3 is not above 4", x.broken(2), 0);
            due("0 is not above 0", x.broken(3), 0);
            due("3 is not above 10000", x.broken(4), 0);
        }
        x.hours(200);
        due("200 more", x.broken(0), 205);
        due("not one", x.broken(1), 0);
    }

    private static void postAtNoLimit() {
        DredgeWays x = threes(2, 1, 0);
        x.rule(CURRENT, 1);
        x.hours(1);
        dueCells("one drifted", x, 2, 2, 1);
        x.rule(CURRENT, 0);
        x.post(1, 0);
        x.post(1, 1);
        x.hours(3);
        due("1 is above 0", x.broken(0), 3);
        due("1 is not above 1", x.broken(1), 0);
    }

    /** A CLOUD of 4 is 3 at the end of the HOUR in which it comes; what drifts there in an HOUR is there at its end. */
    private static void postSeesTheEndOfTheHour() {
        DredgeWays x = Boards.undrawn(1, 1);
        x.post(0, 3);
        x.post(0, 2);
        x.trip(0, 0, 0, 1, 0);
        due("3 at each end", x.broken(0), 0);
        due("3 at each end", x.broken(1), 3);
        DredgeWays y = threes(2, 1, 0);
        y.rule(CURRENT, 1);
        y.post(1, 0);
        y.post(0, 2);
        y.hours(1);
        due("drifted there", y.broken(0), 1);
        due("drifted away", y.broken(1), 0);
    }

    private static void postBeginsWhenItIsThere() {
        DredgeWays x = threes(1, 1, 0);
        x.hours(20);
        for (int p = 0; p < 8; p++) {
            due("number", x.post(0, 0), p);
            x.hours(1);
        }
        for (int p = 0; p < 8; p++) due("since it is there", x.broken(p), 8 - p);
        due("none behind the eighth", x.broken(8), BAD);
        x.board(1, 1);
        due("none on a new board", x.broken(0), BAD);
        x.post(0, 0);
        due("anew", x.broken(0), 0);
    }

    // "Each 24th HOUR, at its end, SILT".
    private static void siltEach24thHour() {
        DredgeWays x = Boards.ways(2, 1);
        x.lay(0, 0, 100);
        x.lay(0, 1, 1);
        for (int day = 1; day <= 5; day++) {
            x.hours(23);
            due("HOUR " + x.count(2), x.count(8), day - 1);
            x.hours(1);
            due("HOUR " + x.count(2), x.count(8), day);
            due("DEPTH", x.cell(0, 0), 100 - day);
        }
        x.hours(200);
        due("eight more in 200", x.count(8), 13);
        due("HOUR", x.count(2), 320);
        x.hours(15);
        due("HOUR 335", x.count(8), 13);
        x.hours(1);
        due("HOUR 336", x.count(8), 14);
    }

    /** Three HOURS: from 20 on they end at 23, from 21 on at 24, from 24 on at 27. */
    private static void siltWithinATrip() {
        int[][] begins = {{20, 0}, {21, 1}, {22, 1}, {23, 1}, {24, 1}, {44, 1}, {45, 2}};
        for (int[] b : begins) {
            DredgeWays x = Boards.undrawn(2, 1);
            x.lay(0, 0, 100);
            x.lay(0, 1, 1);
            x.hours(b[0]);
            x.trip(0, 1, 1, 0, 0);
            due("SILT from " + b[0] + " on", x.count(8), b[1]);
        }
    }

    private static void dueSilt(String call, DredgeWays x, int... want) {
        int before = 0, after = 0;
        for (int c = 0; c < want.length; c++) before += x.cell(c, 0);
        x.hours(24);
        dueCells(call, x, 0, want);
        for (int c = 0; c < want.length; c++) after += x.cell(c, 0);
        due(call + ": SILT", x.count(8), before - after);
    }

    // "each CELL with a DESIGN": 1 is one, 0 is none.
    private static void siltOfDrawnCells() {
        DredgeWays x = Boards.row(0, 9, 0, 9, 0, 9);
        x.lay(2, 1, 1);
        x.lay(4, 1, 300);
        dueSilt("two are drawn", x, 9, 0, 8, 0, 8);
    }

    // "whose DEPTH is above the mean of its neighbours".
    private static void siltAboveTheMean() {
        dueSilt("like it", Boards.row(5, 7, 7, 7), 7, 7, 7);
        dueSilt("one above", Boards.row(5, 7, 8, 7), 7, 7, 7);
        dueSilt("one below", Boards.row(5, 7, 6, 7), 6, 6, 6);
        dueSilt("like the mean of both", Boards.row(5, 6, 7, 8), 6, 7, 7);
        dueSilt("above the mean of both", Boards.row(5, 6, 8, 8), 6, 7, 8);
    }

    // "(... cut ...)".
    private static void siltByMeanThatIsCut() {
        // The mean of 7 and 8 is cut to 7.
        dueSilt("7 is not above it", Boards.row(5, 7, 7, 8), 7, 7, 7);
        dueSilt("8 is above it", Boards.row(5, 7, 8, 8), 7, 7, 8);
        // The mean of 0 and 1 is cut to 0.
        dueSilt("1 is above it", Boards.row(5, 0, 1, 1), 0, 0, 1);
        dueSilt("0 is not above it", Boards.row(5, 0, 0, 1), 0, 0, 0);
    }

    /** A board of 3 by 3, depth 0 and no design but where it is told. */
    private static DredgeWays nine(int drawn, int... depths) {
        DredgeWays x = Boards.ways(3, 3);
        for (int c = 0; c < 9; c++) x.lay(c, 0, depths[c]);
        x.lay(drawn, 1, 1);
        return x;
    }

    // "those that there are": two of a corner, three of a side, four of the midst.
    private static void siltOfCornersAndSides() {
        // 8 and 9 by 2 are 8.
        dueSilt("corner at the mean", nine(0, 8, 8, 0, 9, 0, 0, 0, 0, 0), 8, 8, 0, 9, 0, 0, 0, 0, 0);
        dueSilt("corner above it", nine(0, 9, 8, 0, 9, 0, 0, 0, 0, 0), 8, 8, 0, 9, 0, 0, 0, 0, 0);
        dueSilt("last corner at it", nine(8, 0, 0, 0, 0, 0, 9, 0, 8, 8), 0, 0, 0, 0, 0, 9, 0, 8, 8);
        dueSilt("last corner above it", nine(8, 0, 0, 0, 0, 0, 9, 0, 8, 9), 0, 0, 0, 0, 0, 9, 0, 8, 8);
        // 7, 8 and 8 by 3 are 7.
        dueSilt("upper side at it", nine(1, 7, 7, 8, 0, 8, 0, 0, 0, 0), 7, 7, 8, 0, 8, 0, 0, 0, 0);
        dueSilt("upper side above it", nine(1, 7, 8, 8, 0, 8, 0, 0, 0, 0), 7, 7, 8, 0, 8, 0, 0, 0, 0);
        dueSilt("left side at it", nine(3, 7, 0, 0, 7, 8, 0, 8, 0, 0), 7, 0, 0, 7, 8, 0, 8, 0, 0);
        dueSilt("left side above it", nine(3, 7, 0, 0, 8, 8, 0, 8, 0, 0), 7, 0, 0, 7, 8, 0, 8, 0, 0);
        // 4, 5, 5 and 5 by 4 are 4.
        dueSilt("midst at it", nine(4, 0, 4, 0, 5, 4, 5, 0, 5, 0), 0, 4, 0, 5, 4, 5, 0, 5, 0);
        dueSilt("midst above it", nine(4, 0, 4, 0, 5, 5, 5, 0, 5, 0), 0, 4, 0, 5, 4, 5, 0, 5, 0);
    }

    // "neighbours in rows and columns": none by the corner.
    private static void siltBySidesAlone() {
        dueSilt("deep corners", nine(4, 400, 4, 400, 4, 5, 4, 400, 4, 400), 400, 4, 400, 4, 4, 4, 400, 4, 400);
        dueSilt("shallow corners", nine(4, 0, 5, 0, 5, 5, 5, 0, 5, 0), 0, 5, 0, 5, 5, 5, 0, 5, 0);
    }

    /** The end of a row and the beginning of the next are no neighbours. */
    private static void siltKeepsToRowsAndColumns() {
        DredgeWays x = nine(2, 0, 5, 5, 0, 0, 5, 0, 0, 0);
        dueSilt("end of a row", x, 0, 5, 5, 0, 0, 5, 0, 0, 0);
        DredgeWays y = nine(3, 5, 0, 0, 5, 5, 0, 5, 0, 0);
        dueSilt("beginning of a row", y, 5, 0, 0, 5, 5, 0, 5, 0, 0);
    }

    // "a lone CELL has none, and no SILT".
    private static void siltOfLoneAndPairedCells() {
        dueSilt("lone", Boards.row(5, 400), 400);
        dueSilt("two in a row", Boards.row(5, 400, 399), 399, 399);
        dueSilt("two alike in a row", Boards.row(5, 400, 400), 400, 400);
        DredgeWays x = Boards.ways(1, 2);
        x.lay(1, 0, 1);
        x.lay(1, 1, 1);
        dueSilt("two in a column", x, 0, 0);
        dueSilt("all along, each above the next", Boards.row(5, 6, 5, 4, 3, 2, 1), 5, 5, 4, 3, 2, 1);
    }

    private static void siltDownToNothing() {
        DredgeWays x = Boards.row(5, 2, 0);
        dueSilt("2 beside 0", x, 1, 0);
        x.hours(24);
        dueCells("1 beside 0", x, 0, 0, 0);
        x.hours(24);
        dueCells("0 beside 0", x, 0, 0, 0);
        due("SILT", x.count(8), 2);
    }

    // "(all as they were ahead)": one by one, 3 4 4 would be 3 3 3.
    private static void siltAllAsAhead() {
        dueSilt("from the left", Boards.row(5, 3, 4, 4), 3, 3, 4);
        dueSilt("from the right", Boards.row(5, 4, 4, 3), 4, 3, 3);
        DredgeWays x = Boards.ways(1, 3);
        int[] depths = {4, 4, 3};
        for (int c = 0; c < 3; c++) {
            x.lay(c, 0, depths[c]);
            x.lay(c, 1, 1);
        }
        dueSilt("from below", x, 4, 3, 3);
    }

    /** A smaller board: no SILT comes to the cells that it has not any more. */
    private static void siltOfAGreaterBoard() {
        DredgeWays x = Boards.ways(12, 10);
        for (int c = 0; c < 120; c += 2) {
            x.lay(c, 0, 9);
            x.lay(c, 1, 1);
        }
        x.hours(24);
        due("SILT of the greater", x.count(8) > 0 ? 1 : 0, 1);
        int[][] sizes = {{1, 1}, {2, 1}, {3, 1}, {2, 2}, {11, 10}};
        for (int[] size : sizes) {
            x.board(size[0], size[1]);
            x.hours(24);
            due("no SILT of " + size[0] + " by " + size[1], x.count(8), 0);
        }
    }

    /** Promise 2: with a new board HOURS begin at 0 again, and the day too. */
    private static void boardAnewInTheDay() {
        DredgeWays x = Boards.ways(2, 1);
        x.hours(23);
        x.board(2, 1);
        x.lay(0, 0, 9);
        x.lay(0, 1, 1);
        due("HOUR 1", x.hours(1), 1);
        due("no SILT", x.cell(0, 0), 9);
        x.hours(22);
        due("no SILT yet", x.cell(0, 0), 9);
        x.hours(1);
        due("SILT", x.cell(0, 0), 8);
        x.board(12, 10);
        x.lay(119, 0, 400);
        x.lay(119, 1, 300);
        x.board(1, 1);
        due("smaller", x.cell(1, 0), BAD);
        x.board(12, 10);
        due("greater again", x.cell(119, 0), 0);
        due("greater again", x.cell(119, 1), 0);
    }

    // "An object is used for at most 512 calls after it has been made".
    private static void lastCall() {
        DredgeWays x = new DredgeWays();
        for (int call = 1; call <= 511; call++) due("call " + call, x.hours(1), call);
        due("call 512", x.count(2), 511);
    }
}
