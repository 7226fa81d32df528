/** Each promise by itself: ordinary inputs, the edges that the document names, and wrong inputs. */
public final class PromisesTest {
    private static final int BAD = -1, NO = -2, FULL = -3, NONE = -4;
    private static final int MIN = Integer.MIN_VALUE, MAX = Integer.MAX_VALUE;
    private static final Checks checks = new Checks("PromisesTest");

    public static void main(String[] args) {
        constants();
        newObject();
        board();
        boardMakesAllNew();
        lay();
        rule();
        tide();
        hold();
        spot();
        post();
        best();
        tripDigs();
        tripDigsAgain();
        tripWaits();
        tripOverflows();
        tripIsRefused();
        tripFull();
        tripBad();
        hours();
        cloudsDrift();
        cloudsSettle();
        silt();
        siltComesAfterClouds();
        sound();
        lose();
        join();
        volumeAndUnknown();
        pay();
        sounded();
        cell();
        about();
        broken();
        count();
        checks.end();
    }

    private static void due(String call, long got, long want) {
        checks.due(call, got, want);
    }

    private static void dueCells(String after, DredgeWays x, int what, int... want) {
        for (int c = 0; c < want.length; c++) due(after + ": cell(" + c + ", " + what + ")", x.cell(c, what), want[c]);
    }

    private static void constants() {
        due("BAD", DredgeWays.BAD, -1);
        due("NO", DredgeWays.NO, -2);
        due("FULL", DredgeWays.FULL, -3);
        due("NONE", DredgeWays.NONE, -4);
    }

    private static void dueAsAtFirst(String when, DredgeWays x, int columns, int rows) {
        due(when + " columns", x.count(0), columns);
        due(when + " rows", x.count(1), rows);
        for (int what = 2; what <= 10; what++) due(when + " count(" + what + ")", x.count(what), 0);
        for (int c = 0; c < columns * rows; c++) {
            for (int what = 0; what <= 3; what++) due(when + " cell(" + c + ", " + what + ")", x.cell(c, what), 0);
        }
        for (int s = 0; s <= 2; s++) {
            due(when + " holds", x.about(s, 0), 0);
            due(when + " may", x.about(s, 1), 1000);
            due(when + " away", x.about(s, 2), 2);
        }
        for (int s = 0; s <= 5; s++) due(when + " sounded", x.sounded(s, 0), NO);
        due(when + " broken", x.broken(0), BAD);
        int[] rules = {5, 100, 50, 80, 0};
        for (int what = 0; what < 5; what++) due(when + " rule", x.rule(what, 0), rules[what]);
        for (int h = 0; h < 12; h++) due(when + " tide", x.tide(h, 0), 0);
        for (int t = 1; t <= 30; t++) due(when + " hold", x.hold(t, t), t);
    }

    private static void newObject() {
        dueAsAtFirst("new", new DredgeWays(), 1, 1);
    }

    private static void board() {
        DredgeWays x = new DredgeWays();
        due("board(12, 10)", x.board(12, 10), 120);
        due("last cell", x.lay(119, 0, 7), 0);
        due("behind the last", x.lay(120, 0, 7), BAD);
        int[][] wrong = {{0, 1}, {13, 1}, {1, 0}, {1, 11}, {-1, 5}, {5, -1}, {MIN, 1}, {1, MIN}, {MAX, 1}, {1, MAX}, {10, 12}};
        for (int[] w : wrong) due("board wrong", x.board(w[0], w[1]), BAD);
        due("a wrong board changes nothing", x.cell(119, 0), 7);
        due("board(1, 1)", x.board(1, 1), 1);
        due("board(3, 2)", x.board(3, 2), 6);
        due("columns", x.count(0), 3);
        due("rows", x.count(1), 2);
        // Cells are numbered along the rows: 4 is row 1, column 1.
        x.lay(4, 1, 9);
        Boards.dig(x, 1, 1, 1, 3);
        due("row times columns, and column", x.cell(4, 0), 3);
    }

    private static void boardMakesAllNew() {
        DredgeWays x = Boards.row(20, 1, 2, 3);
        x.rule(0, 1);
        x.rule(1, 90);
        x.rule(2, 20);
        x.rule(3, 30);
        x.rule(4, 1);
        for (int h = 0; h < 12; h++) x.tide(h, 60);
        x.hold(30, 200);
        x.hold(1, 50);
        x.spot(0, 500, 3);
        x.spot(1, 500, 3);
        x.spot(2, 500, 3);
        x.post(0, 0);
        for (int s = 0; s < 6; s++) x.sound(s);
        x.trip(0, 0, 2, 30, 0);
        x.trip(0, 0, 2, 30, 0);
        x.hours(50);
        due("was in use", x.count(3), 2);
        x.board(2, 2);
        dueAsAtFirst("new board", x, 2, 2);
        x.post(0, 0);
        due("a new post is not broken", x.broken(0), 0);
    }

    private static void lay() {
        DredgeWays x = Boards.ways(2, 1);
        due("lay depth", x.lay(0, 0, 400), 0);
        due("lay depth again", x.lay(0, 0, 0), 400);
        due("lay design", x.lay(0, 1, 300), 0);
        due("lay design again", x.lay(0, 1, 12), 300);
        due("each by itself", x.lay(0, 0, 3), 0);
        int[][] wrong = {{-1, 0, 1}, {2, 0, 1}, {0, 2, 1}, {0, -1, 1}, {0, 0, -1}, {0, 0, 401}, {0, 1, -1}, {0, 1, 301},
            {MAX, 0, 1}, {MIN, 0, 1}, {0, MAX, 1}, {0, MIN, 1}, {0, 0, MAX}, {0, 1, MIN}};
        for (int[] w : wrong) due("lay wrong", x.lay(w[0], w[1], w[2]), BAD);
        dueCells("laid", x, 0, 3, 0);
        dueCells("laid", x, 1, 12, 0);
    }

    private static void rule() {
        DredgeWays x = new DredgeWays();
        int[] first = {5, 100, 50, 80, 0};
        int[] least = {0, 0, 0, 0, -1};
        int[] most = {50, 400, 400, 400, 1};
        for (int what = 0; what < 5; what++) {
            due("rule least", x.rule(what, least[what]), first[what]);
            due("rule most", x.rule(what, most[what]), least[what]);
            due("rule below", x.rule(what, least[what] - 1), -9);
            due("rule above", x.rule(what, most[what] + 1), -9);
            due("rule far below", x.rule(what, MIN), -9);
            due("rule far above", x.rule(what, MAX), -9);
            due("rule stays", x.rule(what, 0), most[what]);
        }
        due("no such rule", x.rule(5, 0), -9);
        due("no such rule", x.rule(-1, 0), -9);
        due("no such rule", x.rule(MIN, 0), -9);
        due("no such rule", x.rule(MAX, 0), -9);
    }

    private static void tide() {
        DredgeWays x = new DredgeWays();
        for (int h = 0; h < 12; h++) due("tide first", x.tide(h, h * 5), 0);
        for (int h = 0; h < 12; h++) due("tide again", x.tide(h, 60), h * 5);
        int[][] wrong = {{-1, 0}, {12, 0}, {0, -1}, {0, 61}, {MIN, 0}, {MAX, 0}, {0, MIN}, {0, MAX}};
        for (int[] w : wrong) due("tide wrong", x.tide(w[0], w[1]), BAD);
        for (int h = 0; h < 12; h++) due("tide stays", x.tide(h, 0), 60);
    }

    private static void hold() {
        DredgeWays x = new DredgeWays();
        due("hold(10, 15)", x.hold(10, 15), 10);
        for (int t = 1; t < 10; t++) due("fewer that are less stay", x.hold(t, t), t);
        for (int t = 11; t <= 15; t++) due("more that are less rise", x.hold(t, 15), 15);
        due("more that are more stay", x.hold(16, 16), 16);
        due("hold(20, 3)", x.hold(20, 3), 20);
        due("fewer that are more fall", x.hold(10, 3), 3);
        due("fewer that are less stay", x.hold(2, 2), 2);
        due("more that are more stay", x.hold(21, 21), 21);
        due("hold(1, 200)", x.hold(1, 200), 1);
        due("to the end", x.hold(30, 200), 200);
        due("hold(30, 0)", x.hold(30, 0), 200);
        due("to the beginning", x.hold(1, 0), 0);
        int[][] wrong = {{0, 0}, {31, 0}, {-1, 5}, {1, -1}, {1, 201}, {MIN, 0}, {MAX, 0}, {1, MIN}, {1, MAX}};
        for (int[] w : wrong) due("hold wrong", x.hold(w[0], w[1]), BAD);
        for (int t = 1; t <= 30; t++) due("hold stays", x.hold(t, 0), 0);
    }

    private static void spot() {
        DredgeWays x = Boards.row(100, 0);
        due("spot", x.spot(0, 100000, 20), 0);
        due("may", x.about(0, 1), 100000);
        due("hours", x.about(0, 2), 20);
        due("least", x.spot(0, 0, 1), 0);
        due("may", x.about(0, 1), 0);
        due("hours", x.about(0, 2), 1);
        x.spot(2, 50, 1);
        x.trip(0, 0, 0, 10, 2);
        due("less than it holds", x.spot(2, 9, 3), NO);
        due("NO changes nothing", x.about(2, 1), 50);
        due("NO changes nothing", x.about(2, 2), 1);
        due("as much as it holds", x.spot(2, 10, 4), 10);
        due("may", x.about(2, 1), 10);
        due("hours", x.about(2, 2), 4);
        int[][] wrong = {{-1, 5, 5}, {3, 5, 5}, {0, -1, 5}, {0, 100001, 5}, {0, 5, 0}, {0, 5, 21}, {2, 9, 0},
            {MIN, 5, 5}, {MAX, 5, 5}, {0, MIN, 5}, {0, MAX, 5}, {0, 5, MIN}, {0, 5, MAX}};
        for (int[] w : wrong) due("spot wrong", x.spot(w[0], w[1], w[2]), BAD);
        due("BAD changes nothing", x.about(0, 2), 1);
    }

    private static void post() {
        DredgeWays x = Boards.ways(3, 1);
        int[][] wrong = {{-1, 5}, {3, 5}, {0, -1}, {0, 10001}, {MIN, 5}, {MAX, 5}, {0, MIN}, {0, MAX}};
        for (int[] w : wrong) due("post wrong", x.post(w[0], w[1]), BAD);
        due("none yet", x.count(10), 0);
        for (int p = 0; p < 8; p++) {
            due("post", x.post(p % 3, p % 2 * 10000), p);
            due("posts", x.count(10), p + 1);
        }
        due("a ninth", x.post(0, 0), FULL);
        due("a wrong ninth", x.post(3, 0), BAD);
        due("posts", x.count(10), 8);
    }

    private static void best() {
        DredgeWays x = new DredgeWays();
        due("as at first", x.best(0), 30);
        x.hold(20, 25);
        // 25 * 270 < 30 * 260
        due("25 by 260", x.best(0), 30);
        x.hold(20, 29);
        // 29 * 270 > 30 * 260
        due("29 by 260", x.best(0), 20);
        x.spot(1, 1000, 20);
        // 29 * 2430 < 30 * 2420
        due("29 by 2420", x.best(1), 30);
        due("the other spot", x.best(2), 20);
        x.hold(30, 0);
        due("of like ones the least", x.best(0), 1);
        DredgeWays z = new DredgeWays();
        z.hold(30, 0);
        z.spot(0, 1000, 1);
        z.hold(30, 144);
        z.hold(5, 120);
        due("120 by 125 is 144 by 150", z.best(0), 5);
        z.hold(30, 145);
        due("145 by 150 is more", z.best(0), 30);
        DredgeWays y = new DredgeWays();
        y.hold(30, 0);
        y.spot(0, 1000, 1);
        y.hold(1, 120);
        y.hold(2, 121);
        // 121 * 121 > 120 * 122
        due("121 by 122", y.best(0), 2);
        y.hold(1, 121);
        y.hold(2, 122);
        due("121 by 121 is 122 by 122", y.best(0), 1);
        int[] wrong = {-1, 3, MIN, MAX};
        for (int w : wrong) due("best wrong", x.best(w), BAD);
    }

    private static void tripDigs() {
        DredgeWays x = Boards.ways(4, 3);
        for (int c = 4; c < 8; c++) x.lay(c, 1, 10);
        due("along", Boards.dig(x, 1, 0, 3, 3), 3);
        dueCells("along", x, 0, 0, 0, 0, 0, 1, 1, 1, 0, 0, 0, 0, 0);
        due("back", Boards.dig(x, 1, 3, 1, 2), 2);
        dueCells("back", x, 0, 0, 0, 0, 0, 1, 1, 2, 1, 0, 0, 0, 0);
        due("one cell", Boards.dig(x, 1, 1, 1, 4), 4);
        dueCells("one cell", x, 0, 0, 0, 0, 0, 1, 5, 2, 1, 0, 0, 0, 0);
        due("no minutes", x.trip(1, 0, 3, 0, 0), 0);
        due("no design", x.trip(0, 0, 3, 30, 0), 0);
        due("holds", x.about(0, 0), 9);
        due("trips", x.count(3), 5);
        due("dug", x.count(4), 9);
        due("hours", x.count(2), 25);
        x.hold(1, 7);
        due("as the table tells", x.trip(1, 0, 3, 1, 2), 7);
        due("holds", x.about(2, 0), 7);
        due("holds", x.about(0, 0), 9);
    }

    private static void tripDigsAgain() {
        DredgeWays x = Boards.row(10, 8, 0, 8);
        x.rule(0, 1);
        x.lay(1, 1, 0);
        due("again from a on", Boards.dig(x, 0, 2, 0, 3), 3);
        dueCells("again from a on", x, 0, 9, 0, 10);
        due("till nothing is left", Boards.dig(x, 0, 0, 2, 30), 3);
        dueCells("till nothing is left", x, 0, 11, 0, 11);
        due("nothing left", Boards.dig(x, 0, 0, 2, 30), 0);
        x.rule(0, 0);
        due("deeper than it may", Boards.dig(x, 0, 2, 2, 30), 0);
        dueCells("nothing left", x, 0, 11, 0, 11);
        DredgeWays y = Boards.row(300, 349);
        y.rule(0, 50);
        due("to the deepest", Boards.dig(y, 0, 0, 0, 30), 1);
        due("to the deepest", y.cell(0, 0), 350);
        due("no deeper", Boards.dig(y, 0, 0, 0, 30), 0);
        DredgeWays z = Boards.row(300, 0);
        z.hold(30, 200);
        due("200 runs along", z.trip(0, 0, 0, 30, 0), 200);
        due("200 deep", z.cell(0, 0), 200);
        DredgeWays w = Boards.row(5, 0, 0, 0);
        w.rule(0, 0);
        w.hold(1, 8);
        due("the last is told by the runs", w.trip(0, 2, 0, 1, 0), 8);
        dueCells("the last run ends early", w, 0, 2, 3, 3);
    }

    private static void tripWaits() {
        DredgeWays x = Boards.row(300, 0);
        x.rule(1, 40);
        x.rule(2, 45);
        x.rule(3, 70);
        x.tide(4, 30);
        x.tide(9, 5);
        x.spot(0, 1000, 3);
        // Digs in hour 0, waits for hour 4, is there at 7, waits for hour 9, is back at 12.
        due("waits for both", x.trip(0, 0, 0, 1, 0), 1);
        due("waits for both", x.count(2), 12);
        // With nothing in it: digs in 12, leaves in 16, is there at 19, waits for 21, is back at 24.
        x.lay(0, 1, 0);
        due("empty", x.trip(0, 0, 0, 1, 0), 0);
        due("empty", x.count(2), 24);
        // Digs in 32, leaves in 33 (9 of the tide), is there at 36, waits for 40, is back at 43.
        x.hours(8);
        due("leaves at once", x.trip(0, 0, 0, 1, 0), 0);
        due("leaves at once", x.count(2), 43);
        // Digs in 51, leaves in 52 (4 of the tide), is there at 55, waits for 57, is back at 60.
        x.lay(0, 1, 300);
        x.hours(8);
        due("laden at once", x.trip(0, 0, 0, 1, 0), 1);
        due("laden at once", x.count(2), 60);
        DredgeWays y = Boards.row(300, 0);
        y.spot(0, 1000, 20);
        y.rule(1, 20);
        y.rule(3, 80);
        y.rule(2, 80);
        for (int h = 0; h < 12; h++) y.tide(h, 60);
        due("just enough", y.trip(0, 0, 0, 1, 0), 1);
        due("no waiting", y.count(2), 41);
    }

    private static void tripOverflows() {
        DredgeWays x = Boards.row(10, 9, 7, 0, 7);
        x.lay(2, 1, 0);
        x.rule(0, 0);
        // Along it is 1 in columns 0, 1 and 3, again in 1 and 3; 15 overflow at 3, of which 9 settle.
        due("trip", x.trip(0, 0, 3, 5, 0), 5);
        dueCells("dug", x, 0, 10, 9, 0, 9 - 9 / 4);
        due("came", x.count(5), 15);
        dueCells("at the last", x, 2, 0, 0, 0, after(15, 5));
        // Two are left to dig, the second of them in column 1.
        x.lay(3, 0, 9);
        due("trip", x.trip(0, 3, 0, 6, 0), 2);
        due("came", x.count(5), 15 + 22);
        dueCells("at the last", x, 2, 0, after(22, 5), 0, after(15, 10));
        due("none dug", x.trip(0, 2, 2, 2, 0), 0);
        due("came", x.count(5), 15 + 22 + 8);
        dueCells("at a", x, 2, 0, after(22, 10), after(8, 5), after(15, 15));
        due("on what is there", x.trip(0, 2, 2, 10, 0), 0);
        due("on what is there", x.cell(2, 2), after(after(8, 5) + 40, 5));
        // More in the hold than was pumped: no cloud.
        DredgeWays y = Boards.row(300, 0);
        y.hold(10, 41);
        due("trip", y.trip(0, 0, 0, 10, 0), 41);
        due("less than nothing", y.count(5), 0);
        y.hold(10, 39);
        due("trip", y.trip(0, 0, 0, 10, 0), 39);
        due("one", y.count(5), 1);
        due("one stays", y.cell(0, 2), 1);
        due("trip", y.trip(0, 0, 0, 0, 0), 0);
        due("no minutes, no cloud", y.count(5), 1);
    }

    /** What is left of a cloud that only settles. */
    private static int after(int cloud, int hours) {
        for (int h = 0; h < hours; h++) cloud -= cloud / 4;
        return cloud;
    }

    private static void dueNothingDone(String why, DredgeWays x) {
        due(why + ": depth", x.cell(0, 0), 0);
        due(why + ": cloud", x.cell(0, 2), 0);
        for (int what = 2; what <= 8; what++) due(why + ": count(" + what + ")", x.count(what), 0);
        due(why + ": holds", x.about(0, 0), 0);
    }

    private static void tripIsRefused() {
        DredgeWays x = Boards.row(300, 0);
        x.spot(0, 9, 1);
        due("too much", x.trip(0, 0, 0, 10, 0), NO);
        dueNothingDone("too much", x);
        due("just as much", x.trip(0, 0, 0, 9, 0), 9);
        due("one more", x.trip(0, 0, 0, 1, 0), NO);
        due("nothing goes always", x.trip(0, 0, 0, 0, 0), 0);

        DredgeWays y = Boards.row(300, 0);
        y.rule(3, 101);
        due("never laden", y.trip(0, 0, 0, 10, 0), NO);
        dueNothingDone("never laden", y);
        y.tide(11, 1);
        due("once in twelve", y.trip(0, 0, 0, 10, 0), 10);
        due("once in twelve", y.count(2), 15);
        y.tide(11, 0);
        due("empty needs no laden", y.trip(0, 0, 0, 0, 0), 0);
        int deep = y.cell(0, 0);
        y.rule(2, 101);
        due("never empty", y.trip(0, 0, 0, 0, 0), NO);
        y.rule(3, 0);
        due("never back", y.trip(0, 0, 0, 5, 0), NO);
        due("nothing done", y.count(3), 2);
        due("nothing done", y.cell(0, 0), deep);
    }

    private static void tripFull() {
        DredgeWays x = Boards.row(300, 0);
        for (int i = 0; i < 24; i++) x.hours(200);
        x.hours(195);
        due("hours", x.count(2), 4995);
        x.spot(0, 1000, 3);
        x.lay(0, 0, 0);
        due("beyond 5000", x.trip(0, 0, 0, 30, 0), FULL);
        due("nothing done", x.cell(0, 0), 0);
        due("nothing done", x.count(5), 0);
        due("nothing done", x.about(0, 0), 0);
        due("nothing done", x.count(2), 4995);
        x.spot(1, 2, 3);
        due("NO is before FULL", x.trip(0, 0, 0, 30, 1), NO);
        due("BAD is before NO", x.trip(0, 0, 0, 31, 1), BAD);
        due("to 5000", x.trip(0, 0, 0, 30, 2), 30);
        due("to 5000", x.count(2), 5000);
        due("behind 5000", x.trip(0, 0, 0, 0, 2), FULL);
    }

    private static void tripBad() {
        DredgeWays x = Boards.ways(3, 2);
        int[][] wrong = {{-1, 0, 0, 1, 0}, {2, 0, 0, 1, 0}, {0, -1, 0, 1, 0}, {0, 3, 0, 1, 0}, {0, 0, -1, 1, 0},
            {0, 0, 3, 1, 0}, {0, 0, 0, -1, 0}, {0, 0, 0, 31, 0}, {0, 0, 0, 1, -1}, {0, 0, 0, 1, 3},
            {MAX, 0, 0, 1, 0}, {0, MAX, 0, 1, 0}, {0, 0, MIN, 1, 0}, {0, 0, 0, MIN, 0}, {0, 0, 0, 1, MAX}};
        for (int[] w : wrong) due("trip wrong", x.trip(w[0], w[1], w[2], w[3], w[4]), BAD);
        due("no trips", x.count(3), 0);
        due("the edges", x.trip(1, 2, 0, 30, 2), 0);
    }

    private static void hours() {
        DredgeWays x = new DredgeWays();
        int[] wrong = {0, 201, -1, MIN, MAX};
        for (int w : wrong) due("hours wrong", x.hours(w), BAD);
        due("hours(1)", x.hours(1), 1);
        due("hours(200)", x.hours(200), 201);
        for (int i = 0; i < 23; i++) x.hours(200);
        due("hours(199)", x.hours(199), 5000);
        due("beyond", x.hours(1), FULL);
        due("wrong and beyond", x.hours(0), BAD);
        due("hours", x.count(2), 5000);
        DredgeWays y = new DredgeWays();
        for (int i = 0; i < 24; i++) y.hours(200);
        y.hours(1);
        due("one too many", y.hours(200), FULL);
        due("nothing done", y.count(2), 4801);
        due("just as many", y.hours(199), 5000);
    }

    /** A row without design in whose column a cloud of 40 came; five hours went by. */
    private static DredgeWays clouded(int columns, int column, int current) {
        DredgeWays x = Boards.ways(columns, 2);
        x.rule(4, current);
        x.trip(1, column, column, 10, 0);
        return x;
    }

    private static void cloudsDrift() {
        // 40, then 10 20, then 3 10 10, then 2 4 8 5, then 1 2 4 6 2, then 1 1 2 4 4 1.
        DredgeWays x = clouded(7, 0, 1);
        dueCells("to the right", x, 2, 0, 0, 0, 0, 0, 0, 0, 1, 1, 2, 4, 4, 1, 0);
        DredgeWays y = clouded(7, 6, -1);
        dueCells("to the left", y, 2, 0, 0, 0, 0, 0, 0, 0, 0, 1, 4, 4, 2, 1, 1);
        DredgeWays z = clouded(7, 3, 0);
        dueCells("none drifts", z, 2, 0, 0, 0, 0, 0, 0, 0, 0, 0, 0, after(40, 5), 0, 0, 0);
        due("none gone", z.count(6), 0);
        // At the border it is gone, and not in the next row or at the other end.
        DredgeWays w = clouded(2, 0, -1);
        dueCells("off the left", w, 2, 0, 0, 1, 0);
        due("off the left", w.count(6), 20 + 5 + 1 + 1);
        due("off the left settled", w.count(7), 10 + 2);
        DredgeWays v = Boards.ways(2, 2);
        v.rule(4, 1);
        v.trip(0, 1, 1, 10, 0);
        dueCells("off the right", v, 2, 0, 1, 0, 0);
        due("off the right", v.count(6), 20 + 5 + 1 + 1);
        due("all is somewhere", v.count(6) + v.count(7) + v.cell(1, 2), v.count(5));
    }

    private static void cloudsSettle() {
        DredgeWays x = Boards.row(0, 10);
        x.trip(0, 0, 0, 10, 0);
        // 40 30 23 18 14 11: 10, 7, 5, 4, 3 settled: 29, seven fours and 1.
        due("settled", x.count(7), 29);
        due("less deep", x.cell(0, 0), 3);
        due("loose", x.cell(0, 3), 1);
        due("afloat", x.cell(0, 2), 11);
        x.hours(1);
        due("loose", x.cell(0, 3), 3);
        due("less deep", x.cell(0, 0), 3);
        x.hours(1);
        // 9 7: 2 settled: 33 in all.
        due("loose", x.cell(0, 3), 1);
        due("less deep", x.cell(0, 0), 2);
        due("lay leaves what is loose", x.lay(0, 0, 0), 2);
        x.trip(0, 0, 0, 30, 0);
        due("not below 0", x.cell(0, 0), 0);
        x.lay(0, 0, 50);
        int loose = x.cell(0, 3);
        int settled = x.count(7);
        due("kept by fours at 0 too", loose, settled % 4);
        x.hours(1);
        // What came down at 0 is not taken from the depth later.
        due("nothing more then", x.cell(0, 0), 50 - (loose + x.count(7) - settled) / 4);
    }

    private static void silt() {
        DredgeWays x = Boards.ways(3, 3);
        int[] depths = {5, 4, 5, 4, 5, 5, 9, 3, 0};
        int[] design = {1, 1, 1, 1, 1, 0, 1, 1, 1};
        for (int c = 0; c < 9; c++) {
            x.lay(c, 0, depths[c]);
            x.lay(c, 1, design[c]);
        }
        x.hours(23);
        dueCells("before", x, 0, depths);
        x.hours(1);
        // Means: 4; 15 by 3; 9 by 2; 19 by 3; 16 by 4; -; 7 by 2; 14 by 3; 8 by 2.
        dueCells("at 24", x, 0, 4, 4, 4, 4, 4, 5, 8, 3, 0);
        due("came", x.count(8), 4);
        x.hours(23);
        due("before 48", x.count(8), 4);
        x.hours(1);
        // Means: 4; 12 by 3; 9 by 2; 16 by 3; 16 by 4; -; 7 by 2; 12 by 3; 8 by 2.
        dueCells("at 48", x, 0, 4, 4, 4, 4, 4, 5, 7, 3, 0);
        due("came", x.count(8), 5);
        DredgeWays y = Boards.row(5, 400);
        y.hours(48);
        due("a lone cell", y.cell(0, 0), 400);
        due("a lone cell", y.count(8), 0);
        // All as they were ahead, in both directions: each is above its mean, or none.
        DredgeWays z = Boards.row(5, 3, 2, 1);
        z.hours(24);
        dueCells("as ahead", z, 0, 2, 2, 1);
        DredgeWays w = Boards.row(5, 1, 2, 3);
        w.hours(24);
        dueCells("as ahead", w, 0, 1, 2, 2);
        // A mean of 2.5 is cut to 2, so 3 is above and 2 is not.
        DredgeWays v = Boards.row(5, 2, 2, 3);
        v.hours(24);
        dueCells("cut", v, 0, 2, 2, 2);
        DredgeWays u = Boards.row(5, 2, 3, 3);
        u.hours(24);
        dueCells("cut", u, 0, 2, 2, 3);
    }

    private static void siltComesAfterClouds() {
        // In the 24th hour 4 settle at column 0 (16 afloat): 9 becomes 8, which is not above its neighbour.
        DredgeWays x = Boards.ways(2, 1);
        x.lay(0, 1, 1);
        x.lay(0, 0, 9);
        x.lay(1, 0, 8);
        x.rule(0, 0);
        x.spot(0, 1000, 1);
        x.hours(23);
        x.trip(0, 0, 0, 4, 0);
        // 16 12 9 7: 4, 3, 2 settled.
        due("settled", x.count(7), 9);
        dueCells("settled first", x, 0, 7, 8);
        due("no silt", x.count(8), 0);
    }

    private static void sound() {
        DredgeWays x = Boards.row(5, 1, 2, 3);
        for (int s = 0; s < 6; s++) {
            due("missing", x.sounded(s, 0), NO);
            due("sound", x.sound(s), 0);
            for (int c = 0; c < 3; c++) due("sounded", x.sounded(s, c), c + 1);
        }
        x.lay(1, 0, 50);
        due("as it was", x.sounded(3, 1), 2);
        x.lose(3, 0);
        due("anew", x.sound(3), 0);
        due("anew", x.sounded(3, 1), 50);
        due("no gap any more", x.sounded(3, 0), 1);
        due("the others stay", x.sounded(2, 1), 2);
        int[] wrong = {-1, 6, MIN, MAX};
        for (int w : wrong) due("sound wrong", x.sound(w), BAD);
    }

    private static void lose() {
        DredgeWays x = Boards.row(5, 1, 0);
        due("missing", x.lose(0, 0), NO);
        x.sound(0);
        due("lose", x.lose(0, 1), 1);
        due("again", x.lose(0, 1), 0);
        due("a gap", x.sounded(0, 1), NONE);
        due("the other", x.sounded(0, 0), 1);
        int[][] wrong = {{-1, 0}, {6, 0}, {0, -1}, {0, 2}, {MIN, 0}, {MAX, 0}, {0, MIN}, {0, MAX}, {5, 2}};
        for (int[] w : wrong) due("lose wrong", x.lose(w[0], w[1]), BAD);
        x.lose(0, 0);
        due("all gaps is not missing", x.lose(0, 0), 0);
    }

    private static void join() {
        DredgeWays x = Boards.row(5, 1, 2, 3, 4);
        due("both missing", x.join(0, 1), NO);
        x.sound(0);
        due("one missing", x.join(0, 1), NO);
        due("the other missing", x.join(1, 0), NO);
        for (int c = 0; c < 4; c++) x.lay(c, 0, 10 + c);
        x.sound(1);
        due("no gaps", x.join(0, 1), 0);
        due("known stays", x.sounded(0, 0), 1);
        x.lose(0, 0);
        x.lose(0, 1);
        x.lose(0, 2);
        x.lose(1, 1);
        x.lose(1, 3);
        due("two of three", x.join(0, 1), 2);
        due("got", x.sounded(0, 0), 10);
        due("got", x.sounded(0, 2), 12);
        due("not known there", x.sounded(0, 1), NONE);
        due("known stays", x.sounded(0, 3), 4);
        due("it stays", x.sounded(1, 3), NONE);
        due("with itself", x.join(0, 0), 0);
        due("with itself", x.sounded(0, 1), NONE);
        int[][] wrong = {{-1, 0}, {6, 0}, {0, -1}, {0, 6}, {MIN, 0}, {MAX, 0}, {0, MIN}, {0, MAX}, {6, 5}};
        for (int[] w : wrong) due("join wrong", x.join(w[0], w[1]), BAD);
    }

    private static void volumeAndUnknown() {
        DredgeWays x = Boards.row(5, 10, 20, 30, 40);
        x.lay(3, 1, 0);
        due("both missing", x.between(0, 1, 0), -1000002);
        x.sound(0);
        due("one missing", x.between(0, 1, 1), -1000002);
        due("the other missing", x.between(1, 0, 2), -1000002);
        x.lay(0, 0, 13);
        x.lay(1, 0, 15);
        x.lay(3, 0, 47);
        x.sound(1);
        due("without design too", x.between(0, 1, 0), 3 - 5 + 7);
        due("the other way", x.between(1, 0, 0), -5);
        due("none unknown", x.between(0, 1, 2), 0);
        x.lose(0, 1);
        x.lose(1, 3);
        due("known in both", x.between(0, 1, 0), 3);
        due("with a design", x.between(0, 1, 2), 1);
        x.lose(1, 0);
        due("in one or the other", x.between(0, 1, 2), 2);
        x.lose(1, 1);
        due("in neither", x.between(1, 0, 2), 2);
        int[][] wrong = {{-1, 0, 0}, {6, 0, 0}, {0, -1, 0}, {0, 6, 0}, {0, 0, -1}, {0, 0, 3}, {4, 5, 3},
            {MIN, 0, 0}, {MAX, 0, 0}, {0, MIN, 0}, {0, MAX, 0}, {0, 0, MIN}, {0, 0, MAX}};
        for (int[] w : wrong) due("between wrong", x.between(w[0], w[1], w[2]), -1000001);
    }

    private static int paid(int before, int after) {
        DredgeWays x = Boards.row(10, before);
        x.sound(0);
        x.lay(0, 0, after);
        x.sound(1);
        return x.between(0, 1, 1);
    }

    private static void pay() {
        due("not at design", paid(3, 9), 0);
        due("at design", paid(3, 10), 7);
        due("within over", paid(3, 15), 12);
        due("below over", paid(3, 16), 12);
        due("from design on", paid(10, 13), 3);
        due("from over on", paid(15, 18), 0);
        due("from below over on", paid(17, 18), 0);
        due("less deep", paid(13, 11), 0);
        DredgeWays x = Boards.row(10, 3, 3, 3, 3);
        x.lay(2, 1, 0);
        x.sound(2);
        for (int c = 0; c < 4; c++) x.lay(c, 0, 20);
        x.sound(4);
        due("each with a design", x.between(2, 4, 1), 36);
        x.rule(0, 2);
        due("by over as it is", x.between(2, 4, 1), 27);
        x.lay(0, 1, 15);
        due("by design as it is", x.between(2, 4, 1), 9 + 9 + 14);
        x.lose(2, 0);
        due("a gap ahead", x.between(2, 4, 1), 18);
        x.lose(4, 1);
        due("a gap behind", x.between(2, 4, 1), 9);
        due("the other way", x.between(4, 2, 1), 0);
        DredgeWays y = Boards.row(1, 0);
        y.sound(0);
        y.lay(0, 0, 2);
        y.sound(1);
        due("the least design", y.between(0, 1, 1), 2);
        y.lose(0, 0);
        due("the least design", y.between(0, 1, 2), 1);
    }

    private static void sounded() {
        DredgeWays x = Boards.row(5, 0, 400);
        due("missing", x.sounded(5, 0), NO);
        x.sound(5);
        due("0 is no gap", x.sounded(5, 0), 0);
        due("400", x.sounded(5, 1), 400);
        x.lose(5, 1);
        due("gap", x.sounded(5, 1), NONE);
        due("missing", x.sounded(4, 1), NO);
        int[][] wrong = {{-1, 0}, {6, 0}, {0, -1}, {0, 2}, {5, 2}, {MIN, 0}, {MAX, 0}, {0, MIN}, {0, MAX}};
        for (int[] w : wrong) due("sounded wrong", x.sounded(w[0], w[1]), BAD);
    }

    private static void cell() {
        DredgeWays x = Boards.row(50, 30, 20);
        x.trip(0, 1, 1, 1, 0);
        // A cloud of 3 at column 1: 3 / 4 is 0, so it stays.
        dueCells("depth", x, 0, 30, 21);
        dueCells("design", x, 1, 50, 50);
        dueCells("cloud", x, 2, 0, 3);
        dueCells("loose", x, 3, 0, 0);
        int[][] wrong = {{-1, 0}, {2, 0}, {0, -1}, {0, 4}, {MIN, 0}, {MAX, 0}, {0, MIN}, {0, MAX}};
        for (int[] w : wrong) due("cell wrong", x.cell(w[0], w[1]), BAD);
    }

    private static void about() {
        DredgeWays x = Boards.row(50, 0);
        x.spot(1, 77, 4);
        x.trip(0, 0, 0, 6, 1);
        due("holds", x.about(1, 0), 6);
        due("may", x.about(1, 1), 77);
        due("hours", x.about(1, 2), 4);
        due("another", x.about(2, 0), 0);
        int[][] wrong = {{-1, 0}, {3, 0}, {0, -1}, {0, 3}, {MIN, 0}, {MAX, 0}, {0, MIN}, {0, MAX}};
        for (int[] w : wrong) due("about wrong", x.about(w[0], w[1]), BAD);
    }

    private static void broken() {
        DredgeWays x = Boards.ways(2, 1);
        due("none", x.broken(0), BAD);
        x.post(0, 30);
        x.post(0, 29);
        x.post(0, 17);
        x.post(1, 0);
        // At the ends of the five hours 30, 23, 18, 14 and 11 are afloat.
        x.trip(0, 0, 0, 10, 0);
        due("as much is not above", x.broken(0), 0);
        due("above once", x.broken(1), 1);
        due("above thrice", x.broken(2), 3);
        due("elsewhere", x.broken(3), 0);
        x.post(0, 8);
        x.hours(3);
        // 9, 7, 6
        due("since it is there", x.broken(4), 1);
        int[] wrong = {-1, 5, 8, MIN, MAX};
        for (int w : wrong) due("broken wrong", x.broken(w), BAD);
        // What drifts to a post in an hour is there at its end.
        DredgeWays y = Boards.ways(3, 1);
        y.rule(4, 1);
        y.post(1, 19);
        y.post(2, 9);
        y.trip(0, 0, 0, 10, 0);
        due("drifted there at once", y.broken(0), 1);
        due("drifted there later", y.broken(1), 1);
    }

    private static void count() {
        DredgeWays x = Boards.ways(3, 2);
        x.lay(0, 1, 5);
        x.lay(1, 1, 5);
        x.lay(2, 1, 5);
        x.lay(1, 0, 5);
        x.lay(2, 0, 6);
        x.lay(3, 0, 4);
        due("not yet at it", x.count(9), 1);
        x.lay(5, 1, 1);
        due("not yet at it", x.count(9), 2);
        x.hold(1, 5);
        x.trip(0, 0, 0, 1, 0);
        due("at it", x.count(9), 1);
        x.trip(1, 0, 2, 1, 1);
        due("at it", x.count(9), 0);
        due("columns", x.count(0), 3);
        due("rows", x.count(1), 2);
        due("hours", x.count(2), 10);
        due("trips", x.count(3), 2);
        due("dug", x.count(4), 10);
        x.trip(1, 0, 0, 6, 1);
        due("came", x.count(5), 24);
        int afloat = 0;
        for (int c = 0; c < 6; c++) afloat += x.cell(c, 2);
        due("came and is somewhere", x.count(6) + x.count(7) + afloat, 24);
        due("drifted off", x.count(6), 0);
        due("silt", x.count(8), 0);
        due("posts", x.count(10), 0);
        int[] wrong = {-1, 11, MIN, MAX};
        for (int w : wrong) due("count wrong", x.count(w), BAD);
    }
}
