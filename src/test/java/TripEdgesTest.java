/** Edges of part 2 (promises 6, 7, 9 and 10, by 4 and 5): the table, BEST, what is dug, waiting, refusals, overflow. */
public final class TripEdgesTest {
    private static final int NO = -2, FULL = -3;
    private static final int OVER = 0, SILL = 1, EMPTY = 2, LADEN = 3;
    private static final Checks checks = new Checks("TripEdgesTest");

    public static void main(String[] args) {
        tableDoesNotFall();
        tableAtItsEnds();
        nothingBehindNoMinutes();
        bestIsLeastOrMost();
        bestOfLikeOnes();
        bestByHoursAway();
        digsToDesignAndOver();
        digsDrawnCellsAlone();
        endsWithTheTable();
        endsInTheMidstOfARun();
        endsWhenARunDugNothing();
        alongTheWholeRow();
        staysInItsRow();
        nearestAndFarthestSpot();
        justEnoughWater();
        greatestDraughts();
        ladenFromOneOn();
        roundOfTwelveLaden();
        roundOfTwelveEmpty();
        waitsForHighestOnly();
        spotToItsBrim();
        spotThatMayNothing();
        overflowByTable();
        overflowByMinutes();
        overflowComesToTheLast();
        overflowComesAsDiggingBegins();
        lastHourOfAll();
        checks.end();
    }

    private static void due(String call, long got, long want) {
        checks.due(call, got, want);
    }

    // Promise 6: "those behind more that are less become v, those behind fewer that are more become v".
    private static void tableDoesNotFall() {
        DredgeWays x = new DredgeWays();
        due("as it was", x.hold(10, 10), 10);
        due("behind fewer, less, stays", x.hold(9, 9), 9);
        due("behind more, more, stays", x.hold(11, 11), 11);
        x.hold(10, 9);
        due("behind fewer, as much, stays", x.hold(9, 9), 9);
        x.hold(10, 8);
        due("behind fewer, more by one", x.hold(9, 8), 8);
        due("behind fewer, as much", x.hold(8, 8), 8);
        x.hold(10, 11);
        due("behind more, as much, stays", x.hold(11, 11), 11);
        x.hold(10, 12);
        due("behind more, less by one", x.hold(11, 12), 12);
        due("behind more, as much", x.hold(12, 12), 12);
        due("behind more, more", x.hold(13, 13), 13);
    }

    private static void tableAtItsEnds() {
        DredgeWays x = new DredgeWays();
        due("t 1", x.hold(1, 200), 1);
        for (int t = 2; t <= 30; t++) due("all behind more", x.hold(t, 200), 200);
        due("t 30", x.hold(30, 0), 200);
        for (int t = 1; t <= 29; t++) due("all behind fewer", x.hold(t, 0), 0);
        due("t 30 again", x.hold(30, 200), 0);
        for (int t = 1; t <= 29; t++) due("none behind fewer", x.hold(t, 0), 0);
        due("nor the last", x.hold(30, 200), 200);
    }

    // "0 behind 0".
    private static void nothingBehindNoMinutes() {
        DredgeWays x = Boards.row(300, 0);
        x.hold(1, 200);
        due("no minutes", x.trip(0, 0, 0, 0, 0), 0);
        due("one minute", x.trip(0, 0, 0, 1, 0), 200);
    }

    // Promise 9: t 1 to 30.
    private static void bestIsLeastOrMost() {
        DredgeWays x = new DredgeWays();
        due("each as much as its minutes", x.best(0), 30);
        x.hold(30, 0);
        due("nothing in any", x.best(0), 1);
        x.hold(30, 1);
        due("nothing but in the last", x.best(0), 30);
        x.hold(29, 1);
        due("as much in the last but one", x.best(0), 29);
        x.hold(1, 1);
        due("as much in the first", x.best(0), 1);
        x.hold(2, 2);
        due("twice as much in the second", x.best(0), 2);
    }

    // Promise 9: "of like ones the least"; 121 by 121, 150 by 150; no quotient is cut.
    private static void bestOfLikeOnes() {
        DredgeWays x = new DredgeWays();
        x.spot(0, 1000, 1);
        x.hold(30, 0);
        x.hold(1, 121);
        x.hold(30, 149);
        due("149 by 150 is less than 121 by 121", x.best(0), 1);
        x.hold(30, 150);
        due("150 by 150 is like 121 by 121", x.best(0), 1);
        x.hold(30, 151);
        due("151 by 150 is more than 121 by 121", x.best(0), 30);
        x.hold(29, 150);
        due("150 by 149 is more than 151 by 150", x.best(0), 29);
        x.hold(30, 0);
        x.hold(1, 120);
        x.hold(2, 121);
        due("121 by 122 is more than 120 by 121", x.best(0), 2);
        x.hold(2, 120);
        due("120 by 122 is less than 120 by 121", x.best(0), 1);
    }

    // Promise 9: "120 times the SPOT's HOURS", 1 to 20 of them; 161 by 2415 is like 162 by 2430.
    private static void bestByHoursAway() {
        DredgeWays x = new DredgeWays();
        x.spot(2, 1000, 20);
        x.hold(30, 0);
        x.hold(30, 162);
        x.hold(15, 161);
        due("161 by 2415, 162 by 2430", x.best(2), 15);
        due("161 by 255, 162 by 270", x.best(0), 15);
        x.hold(30, 163);
        due("161 by 2415, 163 by 2430", x.best(2), 30);
        due("161 by 255, 163 by 270", x.best(0), 15);
        x.spot(2, 1000, 1);
        due("161 by 135, 163 by 150", x.best(2), 15);
    }

    // Promise 10: "at a CELL with a DESIGN 1 of DEPTH, if that leaves it at DESIGN and OVER at most".
    private static void digsToDesignAndOver() {
        int[] overs = {0, 1, 5, 49, 50};
        int[] designs = {1, 10, 300};
        for (int over : overs) {
            for (int design : designs) {
                int limit = design + over;
                dueDug(design, over, limit - 1, 1);
                dueDug(design, over, limit, 0);
                dueDug(design, over, limit + 1, 0);
            }
        }
        dueDug(300, 50, 348, 2);
        dueDug(300, 50, 400, 0);
    }

    private static void dueDug(int design, int over, int depth, int want) {
        DredgeWays x = Boards.row(design, depth);
        x.rule(OVER, over);
        due("dug of " + design + " and " + over + " at " + depth, Boards.dig(x, 0, 0, 0, 9), want);
        due("depth of " + design + " and " + over + " at " + depth, x.cell(0, 0), depth + want);
    }

    // "DESIGN (0: none is drawn)".
    private static void digsDrawnCellsAlone() {
        DredgeWays x = Boards.row(0, 0, 0, 0);
        x.rule(OVER, 50);
        due("none is drawn", Boards.dig(x, 0, 0, 2, 9), 0);
        x.lay(1, 1, 1);
        due("one is drawn", Boards.dig(x, 0, 0, 2, 60), 51);
        due("beside it", x.cell(0, 0), 0);
        due("the drawn one", x.cell(1, 0), 51);
        due("beside it", x.cell(2, 0), 0);
        x.lay(1, 1, 0);
        x.lay(1, 0, 0);
        due("none is drawn any more", Boards.dig(x, 0, 0, 2, 9), 0);
    }

    // "it ends when its HOLD has what the table tells for t": 30 may be dug.
    private static void endsWithTheTable() {
        int[][] wanted = {{0, 0}, {1, 1}, {29, 29}, {30, 30}, {31, 30}, {200, 30}};
        for (int[] w : wanted) {
            DredgeWays x = Boards.row(10, 0, 0);
            due("LOAD by a table of " + w[0], Boards.dig(x, 0, 0, 1, w[0]), w[1]);
            due("all dug", x.cell(0, 0) + x.cell(1, 0), w[1]);
            due("STUFF dug", x.count(4), w[1]);
            due("at the SPOT", x.about(0, 0), w[1]);
        }
        DredgeWays lone = Boards.row(300, 0);
        due("a full hold of one cell", Boards.dig(lone, 0, 0, 0, 200), 200);
        due("a full hold of one cell", lone.cell(0, 0), 200);
    }

    private static void endsInTheMidstOfARun() {
        DredgeWays x = Boards.row(10, 0, 0, 0);
        due("a run and one more", Boards.dig(x, 0, 2, 0, 4), 4);
        dueDepths("a run and one more", x, 1, 1, 2);
        due("it begins at a again", Boards.dig(x, 0, 2, 0, 1), 1);
        dueDepths("it begins at a again", x, 1, 1, 3);
        due("just a run", Boards.dig(x, 0, 0, 2, 3), 3);
        dueDepths("just a run", x, 2, 2, 4);
        due("a run less one", Boards.dig(x, 0, 0, 2, 2), 2);
        dueDepths("a run less one", x, 3, 3, 4);
    }

    private static void dueDepths(String after, DredgeWays x, int... want) {
        for (int c = 0; c < want.length; c++) due(after + ": DEPTH of " + c, x.cell(c, 0), want[c]);
    }

    // "or when a whole run along dug nothing".
    private static void endsWhenARunDugNothing() {
        DredgeWays x = Boards.row(10, 15, 15, 10);
        due("room in the last alone", Boards.dig(x, 0, 0, 2, 9), 5);
        dueDepths("room in the last alone", x, 15, 15, 15);
        due("no room", Boards.dig(x, 0, 0, 2, 9), 0);
        DredgeWays y = Boards.row(10, 14, 15, 15);
        due("room in the first alone", Boards.dig(y, 0, 0, 2, 9), 1);
        dueDepths("room in the first alone", y, 15, 15, 15);
    }

    // Promise 10: "from column a to b (a to b, either way about)", 12 columns, 10 rows.
    private static void alongTheWholeRow() {
        DredgeWays x = Boards.ways(12, 10);
        for (int c = 96; c < 120; c++) x.lay(c, 1, 100);
        due("all along", Boards.dig(x, 9, 0, 11, 12), 12);
        for (int c = 108; c < 120; c++) due("all along: " + c, x.cell(c, 0), 1);
        due("all back, and one", Boards.dig(x, 9, 11, 0, 13), 13);
        for (int c = 108; c < 119; c++) due("all back: " + c, x.cell(c, 0), 2);
        due("the first once more", x.cell(119, 0), 3);
        due("the first column alone", Boards.dig(x, 9, 0, 0, 2), 2);
        due("the first column alone", x.cell(108, 0), 4);
        due("the last column alone", Boards.dig(x, 9, 11, 11, 2), 2);
        due("the last column alone", x.cell(119, 0), 5);
        for (int c = 96; c < 108; c++) due("the row ahead: " + c, x.cell(c, 0), 0);
    }

    private static void staysInItsRow() {
        DredgeWays x = Boards.ways(3, 3);
        for (int c = 0; c < 9; c++) x.lay(c, 1, 10);
        due("at the end of a row", Boards.dig(x, 1, 2, 2, 3), 3);
        due("at the beginning of a row", Boards.dig(x, 1, 0, 0, 2), 2);
        dueDepths("no other row", x, 0, 0, 0, 2, 0, 3, 0, 0, 0);
    }

    // Promise 10: the digging HOUR, and the SPOT's HOURS (1 to 20) twice.
    private static void nearestAndFarthestSpot() {
        DredgeWays x = Boards.row(300, 0);
        x.spot(0, 1000, 1);
        x.spot(1, 1000, 20);
        due("nearest", x.trip(0, 0, 0, 1, 0), 1);
        due("nearest", x.count(2), 3);
        due("farthest", x.trip(0, 0, 0, 1, 1), 1);
        due("farthest", x.count(2), 44);
        due("as at first", x.trip(0, 0, 0, 1, 2), 1);
        due("as at first", x.count(2), 49);
    }

    private static DredgeWays sailing(int sill, int tide, int laden, int empty) {
        DredgeWays x = Boards.row(300, 0);
        x.rule(SILL, sill);
        x.rule(LADEN, laden);
        x.rule(EMPTY, empty);
        for (int hour = 0; hour < 12; hour++) x.tide(hour, tide);
        return x;
    }

    private static void dueAtOnce(String call, DredgeWays x, int t) {
        due(call, x.trip(0, 0, 0, t, 0), t);
        due(call + ", without waiting", x.count(2), 5);
    }

    private static void dueNever(String call, DredgeWays x, int t) {
        due(call, x.trip(0, 0, 0, t, 0), NO);
        due(call + ", no HOUR", x.count(2), 0);
        due(call + ", nothing dug", x.cell(0, 0), 0);
    }

    // "THE TIDE and THE SILL together are LADEN at least (EMPTY, if LOAD is 0)".
    private static void justEnoughWater() {
        dueAtOnce("LADEN just reached", sailing(100, 0, 100, 50), 7);
        dueNever("LADEN missed by one", sailing(100, 0, 101, 50), 7);
        dueAtOnce("LADEN just reached by THE TIDE", sailing(100, 7, 107, 50), 7);
        dueNever("LADEN missed by one of THE TIDE", sailing(100, 7, 108, 50), 7);
        dueAtOnce("EMPTY just reached", sailing(100, 0, 80, 100), 7);
        dueNever("EMPTY missed by one", sailing(100, 0, 80, 101), 7);
        dueAtOnce("EMPTY just reached, LOAD 0", sailing(100, 0, 400, 100), 0);
        dueNever("EMPTY missed by one, LOAD 0", sailing(100, 0, 0, 101), 0);
    }

    // THE SILL, EMPTY and LADEN 0 to 400, THE TIDE 0 to 60.
    private static void greatestDraughts() {
        dueAtOnce("400 of THE SILL", sailing(400, 0, 400, 400), 1);
        dueNever("399 of THE SILL", sailing(399, 0, 400, 400), 1);
        dueAtOnce("340 of THE SILL, 60 of THE TIDE", sailing(340, 60, 400, 400), 1);
        dueNever("339 of THE SILL, 60 of THE TIDE", sailing(339, 60, 400, 400), 1);
        dueAtOnce("0 of all", sailing(0, 0, 0, 0), 1);
        dueNever("0 of THE SILL, LADEN 1", sailing(0, 0, 1, 0), 1);
        dueNever("0 of THE SILL, EMPTY 1", sailing(0, 0, 0, 1), 1);
        dueAtOnce("0 of THE SILL, LADEN 1, but LOAD 0", sailing(0, 0, 1, 0), 0);
    }

    /** LADEN is out of reach: only a LOAD of 0 goes. */
    private static void ladenFromOneOn() {
        DredgeWays x = sailing(100, 0, 101, 100);
        due("LOAD 1", x.trip(0, 0, 0, 1, 0), NO);
        due("0 by no minutes", x.trip(0, 0, 0, 0, 0), 0);
        x.hold(1, 0);
        due("0 by the table", x.trip(0, 0, 0, 1, 0), 0);
        x.lay(0, 0, 305);
        due("0 by nothing to dig", x.trip(0, 0, 0, 30, 0), 0);
        x.lay(0, 0, 304);
        due("1 to dig", x.trip(0, 0, 0, 30, 0), NO);
        due("TRIPS", x.count(3), 3);
    }

    /** The HOUR in which a trip that begins at that HOUR is back; the nearest SPOT, one TIDE of 1. */
    private static int home(int begin, int highHour, int laden, int empty) {
        DredgeWays x = sailing(100, 0, laden, empty);
        x.tide(highHour, 1);
        x.spot(0, 1000, 1);
        if (begin > 0) x.hours(begin);
        due("LOAD", x.trip(0, 0, 0, 1, 0), 1);
        return x.count(2);
    }

    // "THE TIDE is that of the HOUR modulo 12"; "the one about to begin" is the one behind the digging HOUR.
    private static void roundOfTwelveLaden() {
        due("digs in 0, leaves in 12", home(0, 0, 101, 0), 14);
        due("digs in 10, leaves in 12", home(10, 0, 101, 0), 14);
        due("digs in 11, leaves in 12", home(11, 0, 101, 0), 14);
        due("digs in 12, leaves in 24", home(12, 0, 101, 0), 26);
        due("digs in 9, leaves in 11", home(9, 11, 101, 0), 13);
        due("digs in 10, leaves in 11", home(10, 11, 101, 0), 13);
        due("digs in 11, leaves in 23", home(11, 11, 101, 0), 25);
        due("digs in 23, leaves in 35", home(23, 11, 101, 0), 37);
        due("digs in 0, leaves in 1", home(0, 1, 101, 0), 3);
        due("digs in 1, leaves in 13", home(1, 1, 101, 0), 15);
    }

    // "waits likewise for EMPTY".
    private static void roundOfTwelveEmpty() {
        due("there at 2, leaves in 12", home(0, 0, 0, 101), 13);
        due("there at 11, leaves in 12", home(9, 0, 0, 101), 13);
        due("there at 12, leaves in 12", home(10, 0, 0, 101), 13);
        due("there at 13, leaves in 24", home(11, 0, 0, 101), 25);
        due("there at 2, leaves in 2", home(0, 2, 0, 101), 3);
        due("there at 3, leaves in 14", home(1, 2, 0, 101), 15);
        // Both: leaves in 12, is there at 13, leaves in 24.
        due("waits for both", home(0, 0, 101, 101), 25);
    }

    /** Of several HOURS only the first that is high enough counts. */
    private static void waitsForHighestOnly() {
        DredgeWays x = sailing(100, 0, 110, 0);
        x.spot(0, 1000, 1);
        x.tide(3, 9);
        x.tide(5, 10);
        x.tide(7, 60);
        due("LOAD", x.trip(0, 0, 0, 1, 0), 1);
        due("9 is too low, 10 is enough", x.count(2), 7);
    }

    // Promise 10: NO, "if the SPOT would hold more than it may": 1000 at first.
    private static void spotToItsBrim() {
        DredgeWays x = Boards.row(300, 0, 0, 0, 0, 0, 0, 0);
        x.hold(30, 200);
        for (int i = 1; i <= 5; i++) {
            due("200 more", x.trip(0, 0, 6, 30, 0), 200);
            due("it holds", x.about(0, 0), 200 * i);
        }
        due("1001", Boards.dig(x, 0, 0, 6, 1), NO);
        due("1000 still", x.about(0, 0), 1000);
        due("nothing more goes", x.trip(0, 0, 6, 0, 0), 0);
        x.spot(0, 1001, 2);
        due("2 more than 1001", Boards.dig(x, 0, 0, 6, 3), NO);
        due("1 to 1001", Boards.dig(x, 0, 0, 6, 1), 1);
        due("1 more than 1001", Boards.dig(x, 0, 0, 6, 1), NO);
        due("it holds", x.about(0, 0), 1001);
        due("to another", x.trip(0, 0, 6, 1, 1), 1);
    }

    private static void spotThatMayNothing() {
        DredgeWays x = Boards.row(300, 0);
        x.spot(0, 0, 2);
        due("LOAD 1", x.trip(0, 0, 0, 1, 0), NO);
        due("nothing dug", x.cell(0, 0), 0);
        due("no CLOUD", x.count(5), 0);
        due("LOAD 0", x.trip(0, 0, 0, 0, 0), 0);
        due("holds", x.about(0, 0), 0);
        due("one TRIP", x.count(3), 1);
    }

    private static void dueOverflow(int t, int load, int want) {
        DredgeWays x = Boards.row(300, 0);
        x.hold(t, load);
        due("LOAD", x.trip(0, 0, 0, t, 0), load);
        due("OVERFLOW of " + t + " less " + load, x.count(5), want);
    }

    // "t times 4 less LOAD, 0 at least".
    private static void overflowByTable() {
        dueOverflow(1, 0, 4);
        dueOverflow(1, 3, 1);
        dueOverflow(1, 4, 0);
        dueOverflow(1, 5, 0);
        dueOverflow(30, 0, 120);
        dueOverflow(30, 119, 1);
        dueOverflow(30, 120, 0);
        dueOverflow(30, 121, 0);
        dueOverflow(30, 200, 0);
    }

    /** The LOAD counts, not the table: with nothing to dig all of it overflows. */
    private static void overflowByMinutes() {
        for (int t = 0; t <= 30; t++) {
            DredgeWays x = Boards.row(0, 0);
            x.hold(1, 200);
            due("LOAD", x.trip(0, 0, 0, t, 0), 0);
            due("OVERFLOW of " + t + " minutes", x.count(5), 4 * t);
        }
    }

    private static void dueCloudAlone(String call, DredgeWays x, int cell) {
        for (int c = 0; c < x.count(0) * x.count(1); c++) {
            due(call + ": CLOUD at " + c, x.cell(c, 2) > 0 ? 1 : 0, c == cell ? 1 : 0);
        }
    }

    // "to the CELL that was dug last (none dug: to CELL r, a)".
    private static void overflowComesToTheLast() {
        int[][] trips = {{0, 2, 1, 3}, {0, 2, 2, 4}, {0, 2, 3, 5}, {0, 2, 4, 3}, {2, 0, 1, 5}, {2, 0, 3, 3}, {2, 0, 4, 5}, {1, 1, 2, 4},
            {0, 2, 0, 3}, {2, 0, 0, 5}, {1, 2, 0, 4}};
        for (int[] w : trips) {
            DredgeWays x = Boards.ways(3, 3);
            for (int c = 3; c < 6; c++) x.lay(c, 1, 10);
            x.hold(30, w[2]);
            due("LOAD", x.trip(1, w[0], w[1], 30, 0), w[2]);
            dueCloudAlone("from " + w[0] + " to " + w[1] + ", " + w[2] + " dug", x, w[3]);
        }
        DredgeWays full = Boards.row(10, 14, 15, 15);
        due("one may be dug", full.trip(0, 2, 0, 9, 0), 1);
        dueCloudAlone("not where the run ended, nor at a", full, 0);
    }

    // "as the digging HOUR begins": 16 are 12, 9, 7 at the ends of the three HOURS.
    private static void overflowComesAsDiggingBegins() {
        DredgeWays x = Boards.undrawn(1, 1);
        x.trip(0, 0, 0, 4, 0);
        due("CLOUD behind three HOURS", x.cell(0, 2), 7);
        due("settled in three HOURS", x.count(7), 9);
    }

    // Promise 10: FULL, HOURS beyond 5000; waiting counts.
    private static void lastHourOfAll() {
        for (int begin = 4955; begin <= 5000; begin++) {
            for (int away = 1; away <= 20; away += 19) {
                DredgeWays x = Boards.row(300, 0);
                x.spot(0, 1000, away);
                for (int i = 0; i < 24; i++) x.hours(200);
                x.hours(begin - 4800);
                int end = begin + 1 + 2 * away;
                due("from " + begin + ", " + away + " away", x.trip(0, 0, 0, 1, 0), end <= 5000 ? 1 : FULL);
                due("HOUR", x.count(2), end <= 5000 ? end : begin);
            }
        }
    }
}
