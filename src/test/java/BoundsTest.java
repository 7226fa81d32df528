/**
 * Promise by promise, for each number that a call takes: the last values that are taken and the first that are refused;
 * and for each refusal (BAD, NO, FULL): it is the first of several, and all is afterwards as if the call had not been.
 */
public final class BoundsTest {
    private static final int BAD = -1, NO = -2, FULL = -3, NONE = -4;
    private static final int BAD_RULE = -9, BAD_BETWEEN = -1000001, NO_BETWEEN = -1000002;
    private static final int MIN = Integer.MIN_VALUE, MAX = Integer.MAX_VALUE;
    private static final Checks checks = new Checks("BoundsTest");

    /** Makes an object, always in the same way. */
    private interface Start {
        DredgeWays make();
    }

    private interface Call {
        int on(DredgeWays x);
    }

    /** A call in which one number is open. */
    private interface CallWith {
        int on(DredgeWays x, int v);
    }

    public static void main(String[] args) {
        newObject();
        board();
        lay();
        rule();
        tide();
        hold();
        spot();
        post();
        best();
        trip();
        tripRefused();
        tripFull();
        hours();
        sound();
        lose();
        join();
        between();
        sounded();
        cell();
        about();
        broken();
        count();
        checks.end();
    }

    private static void due(String call, long got, long want) {
        checks.due(call, got, want);
    }

    /** The call is refused with that answer, and the object is then like one for which it was never called. */
    private static void refused(String call, Start start, int answer, Call c) {
        DredgeWays x = start.make();
        due(call, c.on(x), answer);
        Seen.nowAndLater(x).dueLike(checks, call, Seen.nowAndLater(start.make()));
    }

    /** Least and most are taken; one below, one above and the farthest are refused, and nothing changes then. */
    private static void range(String call, Start start, int least, int most, int refusal, CallWith c) {
        int[] out = {least - 1, most + 1, MIN, MAX};
        for (int v : out) refused(call + " with " + v, start, refusal, x -> c.on(x, v));
        due(call + " with " + least + " refused", c.on(start.make(), least) == refusal ? 1 : 0, 0);
        due(call + " with " + most + " refused", c.on(start.make(), most) == refusal ? 1 : 0, 0);
    }

    private static void range(String call, int least, int most, CallWith c) {
        range(call, BoundsTest::inUse, least, most, BAD, c);
    }

    /** Three columns, two rows, and something of all that there is: clouds, gaps, posts, stuff at spots, hours gone by. */
    private static DredgeWays inUse() {
        DredgeWays x = new DredgeWays();
        x.board(3, 2);
        int[] depths = {4, 9, 0, 7, 2, 12}, designs = {40, 12, 0, 10, 5, 10};
        for (int c = 0; c < 6; c++) {
            x.lay(c, 0, depths[c]);
            x.lay(c, 1, designs[c]);
        }
        int[] rules = {2, 90, 60, 95, 1};
        for (int what = 0; what < 5; what++) x.rule(what, rules[what]);
        x.tide(2, 10);
        x.tide(7, 30);
        x.tide(11, 5);
        x.hold(10, 7);
        x.hold(20, 25);
        x.spot(0, 500, 3);
        x.spot(1, 40, 1);
        x.post(1, 2);
        x.post(5, 0);
        x.post(0, 10000);
        x.sound(1);
        x.trip(0, 0, 2, 10, 0);
        x.trip(1, 2, 0, 12, 1);
        x.trip(0, 1, 0, 24, 0);
        x.trip(1, 0, 2, 30, 1);
        x.sound(3);
        x.lose(3, 2);
        x.lose(3, 4);
        x.lose(1, 5);
        return x;
    }

    private static DredgeWays withAllPosts() {
        DredgeWays x = inUse();
        for (int p = 3; p < 8; p++) x.post(p - 2, p);
        return x;
    }

    /** One cell that can be dug, at this hour. */
    private static DredgeWays atHour(int hour) {
        DredgeWays x = new DredgeWays();
        x.lay(0, 1, 300);
        passTo(x, hour);
        return x;
    }

    private static void passTo(DredgeWays x, int hour) {
        while (x.count(2) < hour) x.hours(Math.min(200, hour - x.count(2)));
    }

    // Promise 1: a BOARD of one CELL.
    private static void newObject() {
        range("new: cell", DredgeWays::new, 0, 0, BAD, (x, c) -> x.cell(c, 0));
        range("new: lay", DredgeWays::new, 0, 0, BAD, (x, c) -> x.lay(c, 0, 1));
        range("new: trip's row", DredgeWays::new, 0, 0, BAD, (x, r) -> x.trip(r, 0, 0, 1, 0));
        range("new: trip's a", DredgeWays::new, 0, 0, BAD, (x, a) -> x.trip(0, a, 0, 1, 0));
        range("new: trip's b", DredgeWays::new, 0, 0, BAD, (x, b) -> x.trip(0, 0, b, 1, 0));
        for (int post = 0; post <= 8; post++) due("new: no post", new DredgeWays().broken(post), BAD);
        for (int s = 0; s <= 5; s++) due("new: MISSING", new DredgeWays().sounded(s, 0), NO);
        Seen.nowAndLater(new DredgeWays()).dueLike(checks, "new, and a BOARD of one CELL", Seen.nowAndLater(Boards.ways(1, 1)));
    }

    // Promise 2: 1 to 12 columns, 1 to 10 rows; "all as at first".
    private static void board() {
        range("board's columns", 1, 12, (x, c) -> x.board(c, 2));
        range("board's rows", 1, 10, (x, r) -> x.board(3, r));
        refused("board, both wrong", BoundsTest::inUse, BAD, x -> x.board(13, 11));
        refused("board, the other way about", BoundsTest::inUse, BAD, x -> x.board(10, 12));
        for (int size = 1; size <= 3; size++) {
            DredgeWays old = withAllPosts();
            due("a new BOARD", old.board(size, 2), 2 * size);
            Seen.nowAndLater(old).dueLike(checks, "a new BOARD", Seen.nowAndLater(Boards.ways(size, 2)));
        }
        DredgeWays x = inUse();
        for (int columns = 1; columns <= 12; columns++) {
            for (int rows = 1; rows <= 10; rows++) {
                int cells = columns * rows;
                due("board(" + columns + ", " + rows + ")", x.board(columns, rows), cells);
                due("last cell", x.lay(cells - 1, 0, 400), 0);
                due("behind the last cell", x.lay(cells, 0, 400), BAD);
            }
        }
    }

    // Promise 3: a CELL, DEPTH 0 to 400, DESIGN 0 to 300.
    private static void lay() {
        range("lay's cell", 0, 5, (x, c) -> x.lay(c, 0, 1));
        range("lay's cell", 0, 5, (x, c) -> x.lay(c, 1, 1));
        range("lay's what", 0, 1, (x, what) -> x.lay(0, what, 1));
        range("lay's DEPTH", 0, 400, (x, v) -> x.lay(0, 0, v));
        range("lay's DESIGN", 0, 300, (x, v) -> x.lay(0, 1, v));
        DredgeWays x = new DredgeWays();
        int[][] bounds = {{0, 400}, {1, 300}};
        for (int[] b : bounds) {
            due("the greatest", x.lay(0, b[0], b[1]), 0);
            due("the greatest", x.cell(0, b[0]), b[1]);
            due("the least", x.lay(0, b[0], 0), b[1]);
            due("the least", x.cell(0, b[0]), 0);
        }
    }

    // Promise 4: OVER 0 to 50, THE SILL, EMPTY and LADEN 0 to 400, CURRENT -1 to 1.
    private static void rule() {
        int[] least = {0, 0, 0, 0, -1}, most = {50, 400, 400, 400, 1}, first = {5, 100, 50, 80, 0};
        for (int i = 0; i < 5; i++) {
            int what = i;
            due("rule " + what + " at first", new DredgeWays().rule(what, least[i]), first[i]);
            range("rule " + what, BoundsTest::inUse, least[i], most[i], BAD_RULE, (x, v) -> x.rule(what, v));
            DredgeWays x = inUse();
            x.rule(what, least[i]);
            due("the least of rule " + what, x.rule(what, most[i]), least[i]);
            due("the greatest of rule " + what, x.rule(what, 0), most[i]);
        }
        range("rule's what", BoundsTest::inUse, 0, 4, BAD_RULE, (x, what) -> x.rule(what, 1));
        // -1 is a CURRENT that was, no refusal.
        DredgeWays x = new DredgeWays();
        x.rule(4, -1);
        due("the CURRENT that was", x.rule(4, -1), -1);
    }

    // Promise 5: an HOUR 0 to 11, a TIDE 0 to 60.
    private static void tide() {
        range("tide's hour", 0, 11, (x, hour) -> x.tide(hour, 1));
        range("tide", 0, 60, (x, v) -> x.tide(0, v));
        range("tide", 0, 60, (x, v) -> x.tide(11, v));
        DredgeWays x = new DredgeWays();
        for (int hour = 0; hour < 12; hour++) {
            due("first", x.tide(hour, 60), 0);
            due("the greatest", x.tide(hour, 0), 60);
            due("the least", x.tide(hour, 0), 0);
        }
    }

    // Promise 6: t 1 to 30, 0 to 200.
    private static void hold() {
        range("hold's t", 1, 30, (x, t) -> x.hold(t, 7));
        range("hold", 0, 200, (x, v) -> x.hold(1, v));
        range("hold", 0, 200, (x, v) -> x.hold(30, v));
        DredgeWays x = new DredgeWays();
        due("the greatest", x.hold(30, 200), 30);
        due("the greatest", x.hold(30, 0), 200);
        for (int t = 1; t <= 30; t++) due("the least", x.hold(t, 0), 0);
    }

    // Promise 7: a SPOT 0 to 2, 0 to 100000, 1 to 20 HOURS; NO: it holds more.
    private static void spot() {
        range("spot", 0, 2, (x, spot) -> x.spot(spot, 100, 2));
        range("spot's most", 0, 100000, (x, most) -> x.spot(2, most, 2));
        range("spot's hours", 1, 20, (x, hours) -> x.spot(2, 100, hours));
        int held = inUse().about(0, 0);
        due("something is there", held > 1 ? 1 : 0, 1);
        refused("one less than it holds", BoundsTest::inUse, NO, x -> x.spot(0, held - 1, 5));
        refused("nothing, but it holds something", BoundsTest::inUse, NO, x -> x.spot(0, 0, 5));
        refused("BAD hours ahead of NO", BoundsTest::inUse, BAD, x -> x.spot(0, held - 1, 21));
        refused("BAD hours ahead of NO", BoundsTest::inUse, BAD, x -> x.spot(0, held - 1, 0));
        refused("BAD most ahead of NO", BoundsTest::inUse, BAD, x -> x.spot(0, -1, 5));
        DredgeWays x = inUse();
        due("just what it holds", x.spot(0, held, 5), held);
        due("may", x.about(0, 1), held);
        due("hours", x.about(0, 2), 5);
        due("the greatest", x.spot(2, 100000, 20), 0);
        due("the greatest", x.about(2, 1), 100000);
        due("the farthest", x.about(2, 2), 20);
        due("the least", x.spot(2, 0, 1), 0);
        due("the least", x.about(2, 1), 0);
        due("the nearest", x.about(2, 2), 1);
    }

    // Promise 8: a CELL, a LIMIT 0 to 10000; FULL: 8.
    private static void post() {
        range("post's cell", 0, 5, (x, c) -> x.post(c, 1));
        range("post's limit", 0, 10000, (x, limit) -> x.post(0, limit));
        DredgeWays x = new DredgeWays();
        for (int p = 0; p < 8; p++) due("post " + p + " of 8", x.post(0, 10000 * (p % 2)), p);
        due("a ninth", x.post(0, 0), FULL);
        due("posts", x.count(10), 8);
        refused("a ninth", BoundsTest::withAllPosts, FULL, y -> y.post(0, 0));
        refused("a ninth, BAD cell ahead of FULL", BoundsTest::withAllPosts, BAD, y -> y.post(6, 0));
        refused("a ninth, BAD limit ahead of FULL", BoundsTest::withAllPosts, BAD, y -> y.post(0, 10001));
        DredgeWays anew = withAllPosts();
        anew.board(1, 1);
        due("the first of a new board", anew.post(0, 0), 0);
    }

    // Promise 9: a SPOT 0 to 2.
    private static void best() {
        range("best", 0, 2, (x, spot) -> x.best(spot));
        due("asked again", asksOnly(x -> x.best(0)), 1);
    }

    // Promise 10: a row, columns a and b, t 0 to 30, a SPOT.
    private static void trip() {
        range("trip's row", 0, 1, (x, row) -> x.trip(row, 0, 2, 1, 2));
        range("trip's a", 0, 2, (x, a) -> x.trip(1, a, 1, 1, 2));
        range("trip's b", 0, 2, (x, b) -> x.trip(1, 1, b, 1, 2));
        range("trip's t", 0, 30, (x, t) -> x.trip(1, 0, 2, t, 2));
        range("trip's spot", 0, 2, (x, spot) -> x.trip(1, 0, 2, 1, spot));
        Start greatest = () -> {
            DredgeWays x = new DredgeWays();
            x.board(12, 10);
            x.lay(119, 1, 300);
            x.lay(108, 1, 300);
            return x;
        };
        due("last row, last column", greatest.make().trip(9, 11, 11, 30, 2), 30);
        due("last row, all columns back", greatest.make().trip(9, 11, 0, 30, 2), 30);
        due("behind the last row", greatest.make().trip(10, 11, 11, 30, 2), BAD);
        due("a behind the last column", greatest.make().trip(9, 12, 11, 30, 2), BAD);
        due("b behind the last column", greatest.make().trip(9, 11, 12, 30, 2), BAD);
    }

    // Promise 10: NO, the SPOT would hold more than it may, or it would wait for ever.
    private static void tripRefused() {
        Start room = () -> {
            DredgeWays x = inUse();
            x.spot(2, 4, 1);
            return x;
        };
        due("as much as the SPOT may", room.make().trip(0, 0, 2, 4, 2), 4);
        refused("one more than the SPOT may", room, NO, x -> x.trip(0, 0, 2, 5, 2));
        refused("BAD t ahead of NO", room, BAD, x -> x.trip(0, 0, 2, 31, 2));
        // The highest TIDE is 30, THE SILL 90.
        Start justLaden = () -> withRule(3, 120), neverLaden = () -> withRule(3, 121);
        due("one HOUR of twelve for LADEN", justLaden.make().trip(0, 0, 2, 5, 2), 5);
        refused("no HOUR for LADEN", neverLaden, NO, x -> x.trip(0, 0, 2, 5, 2));
        due("no HOUR for LADEN, but LOAD is 0", neverLaden.make().trip(0, 0, 2, 0, 2), 0);
        Start justEmpty = () -> withRule(2, 120), neverEmpty = () -> withRule(2, 121);
        due("one HOUR of twelve for EMPTY", justEmpty.make().trip(0, 0, 2, 5, 2), 5);
        due("one HOUR of twelve for EMPTY, LOAD is 0", justEmpty.make().trip(0, 0, 2, 0, 2), 0);
        refused("no HOUR for EMPTY, on the way back", neverEmpty, NO, x -> x.trip(0, 0, 2, 5, 2));
        refused("no HOUR for EMPTY, LOAD is 0", neverEmpty, NO, x -> x.trip(0, 0, 2, 0, 2));
        refused("BAD spot ahead of NO", neverEmpty, BAD, x -> x.trip(0, 0, 2, 5, 3));
    }

    private static DredgeWays withRule(int what, int v) {
        DredgeWays x = inUse();
        x.rule(what, v);
        return x;
    }

    // Promise 10: FULL, HOURS beyond 5000.
    private static void tripFull() {
        // One HOUR to dig, two out, two back.
        DredgeWays x = atHour(4995);
        due("to HOUR 5000", x.trip(0, 0, 0, 30, 0), 30);
        due("HOUR", x.count(2), 5000);
        refused("to HOUR 5001", () -> atHour(4996), FULL, y -> y.trip(0, 0, 0, 30, 0));
        refused("to HOUR 5001 with nothing", () -> atHour(4996), FULL, y -> y.trip(0, 0, 0, 0, 0));
        refused("from HOUR 5000", () -> atHour(5000), FULL, y -> y.trip(0, 0, 0, 1, 0));
        refused("BAD ahead of FULL", () -> atHour(5000), BAD, y -> y.trip(0, 0, 0, 31, 0));
        refused("BAD row ahead of FULL", () -> atHour(5000), BAD, y -> y.trip(1, 0, 0, 30, 0));
        refused("NO by the SPOT ahead of FULL", () -> filledAtHour(4999), NO, y -> y.trip(0, 0, 0, 1, 0));
        refused("NO by waiting ahead of FULL", () -> tooDeepAtHour(4999), NO, y -> y.trip(0, 0, 0, 1, 0));
        // In 4989 (9 of twelve) it digs; TIDE 11 alone is enough: it leaves in 4991, leaves there in 5003.
        due("waiting counts", onceInTwelveAtHour(4977).trip(0, 0, 0, 1, 0), 1);
        refused("waiting counts", () -> onceInTwelveAtHour(4989), FULL, y -> y.trip(0, 0, 0, 1, 0));
    }

    private static DredgeWays filledAtHour(int hour) {
        DredgeWays x = atHour(hour);
        x.spot(0, 0, 2);
        return x;
    }

    private static DredgeWays tooDeepAtHour(int hour) {
        DredgeWays x = atHour(hour);
        x.rule(3, 101);
        return x;
    }

    private static DredgeWays onceInTwelveAtHour(int hour) {
        DredgeWays x = atHour(hour);
        x.rule(2, 101);
        x.rule(3, 101);
        x.tide(11, 1);
        return x;
    }

    // Promise 11: 1 to 200 HOURS; FULL: beyond 5000.
    private static void hours() {
        range("hours", 1, 200, (x, n) -> x.hours(n));
        due("the least", atHour(17).hours(1), 18);
        due("the most", atHour(17).hours(200), 217);
        due("1 to 5000", atHour(4999).hours(1), 5000);
        due("200 to 5000", atHour(4800).hours(200), 5000);
        refused("1 to 5001", () -> atHour(5000), FULL, x -> x.hours(1));
        refused("200 to 5001", () -> atHour(4801), FULL, x -> x.hours(200));
        refused("0, BAD ahead of FULL", () -> atHour(5000), BAD, x -> x.hours(0));
        refused("201, BAD ahead of FULL", () -> atHour(5000), BAD, x -> x.hours(201));
    }

    // Promise 12: a SHEET 0 to 5.
    private static void sound() {
        range("sound", 0, 5, (x, s) -> x.sound(s));
        DredgeWays x = inUse();
        for (int s = 0; s <= 5; s++) due("sound(" + s + ")", x.sound(s), 0);
        for (int s = 0; s <= 5; s++) due("no GAP any more", x.sounded(s, 5), x.cell(5, 0));
    }

    // Promise 13: a SHEET, a CELL; NO: MISSING.
    private static void lose() {
        Start all = BoundsTest::withAllSheets;
        range("lose's sheet", all, 0, 5, BAD, (x, s) -> x.lose(s, 0));
        range("lose's cell", 0, 5, (x, c) -> x.lose(1, c));
        refused("MISSING", BoundsTest::inUse, NO, x -> x.lose(0, 0));
        refused("BAD cell ahead of NO", BoundsTest::inUse, BAD, x -> x.lose(0, 6));
        refused("a GAP already", BoundsTest::inUse, 0, x -> x.lose(3, 4));
        due("first and last", all.make().lose(0, 0), 1);
        due("first and last", all.make().lose(5, 5), 1);
    }

    private static DredgeWays withAllSheets() {
        DredgeWays x = inUse();
        for (int s = 0; s <= 5; s++) x.sound(s);
        return x;
    }

    // Promise 14: two SHEETS; NO: one is MISSING.
    private static void join() {
        Start all = BoundsTest::withAllSheets;
        range("join's s", all, 0, 5, BAD, (x, s) -> x.join(s, 2));
        range("join's t", all, 0, 5, BAD, (x, t) -> x.join(2, t));
        refused("s is MISSING", BoundsTest::inUse, NO, x -> x.join(0, 3));
        refused("t is MISSING", BoundsTest::inUse, NO, x -> x.join(3, 5));
        refused("both are MISSING", BoundsTest::inUse, NO, x -> x.join(0, 5));
        refused("itself is MISSING", BoundsTest::inUse, NO, x -> x.join(0, 0));
        refused("BAD t ahead of NO", BoundsTest::inUse, BAD, x -> x.join(0, 6));
        refused("BAD s ahead of NO", BoundsTest::inUse, BAD, x -> x.join(-1, 0));
        refused("with itself", BoundsTest::inUse, 0, x -> x.join(3, 3));
    }

    // Promise 15: two SHEETS, what 0 to 2; BAD and NO have numbers of their own.
    private static void between() {
        Start all = BoundsTest::withAllSheets;
        for (int i = 0; i <= 2; i++) {
            int what = i;
            range("between's s", all, 0, 5, BAD_BETWEEN, (x, s) -> x.between(s, 2, what));
            range("between's t", all, 0, 5, BAD_BETWEEN, (x, t) -> x.between(2, t, what));
            refused("s is MISSING", BoundsTest::inUse, NO_BETWEEN, x -> x.between(0, 3, what));
            refused("t is MISSING", BoundsTest::inUse, NO_BETWEEN, x -> x.between(3, 5, what));
            refused("both are MISSING", BoundsTest::inUse, NO_BETWEEN, x -> x.between(0, 5, what));
            due("asked again", asksOnly(x -> x.between(1, 3, what)), 1);
        }
        range("between's what", all, 0, 2, BAD_BETWEEN, (x, what) -> x.between(1, 3, what));
        refused("BAD what ahead of NO", BoundsTest::inUse, BAD_BETWEEN, x -> x.between(0, 3, 3));
        refused("BAD t ahead of NO", BoundsTest::inUse, BAD_BETWEEN, x -> x.between(0, 6, 0));
        refused("BAD s ahead of NO", BoundsTest::inUse, BAD_BETWEEN, x -> x.between(6, 0, 0));
    }

    // Promise 16: a SHEET, a CELL; NONE: a GAP; NO: MISSING.
    private static void sounded() {
        range("sounded's sheet", BoundsTest::withAllSheets, 0, 5, BAD, (x, s) -> x.sounded(s, 0));
        range("sounded's cell", 0, 5, (x, c) -> x.sounded(1, c));
        refused("MISSING", BoundsTest::inUse, NO, x -> x.sounded(0, 0));
        refused("BAD cell ahead of NO", BoundsTest::inUse, BAD, x -> x.sounded(0, 6));
        refused("a GAP", BoundsTest::inUse, NONE, x -> x.sounded(3, 4));
        due("asked again", asksOnly(x -> x.sounded(3, 0)), 1);
    }

    // Promise 17: a CELL, what 0 to 3.
    private static void cell() {
        for (int i = 0; i <= 3; i++) {
            int what = i;
            range("cell", 0, 5, (x, c) -> x.cell(c, what));
        }
        range("cell's what", 0, 3, (x, what) -> x.cell(0, what));
        range("cell's what", 0, 3, (x, what) -> x.cell(5, what));
    }

    // Promise 18: a SPOT 0 to 2, what 0 to 2.
    private static void about() {
        range("about", 0, 2, (x, spot) -> x.about(spot, 0));
        range("about's what", 0, 2, (x, what) -> x.about(0, what));
        range("about's what", 0, 2, (x, what) -> x.about(2, what));
    }

    // Promise 19: a POST that there is.
    private static void broken() {
        range("broken of three", 0, 2, (x, post) -> x.broken(post));
        range("broken of eight", BoundsTest::withAllPosts, 0, 7, BAD, (x, post) -> x.broken(post));
        due("broken of none", new DredgeWays().broken(0), BAD);
    }

    // Promise 20: what 0 to 10.
    private static void count() {
        range("count", 0, 10, (x, what) -> x.count(what));
        for (int i = 0; i <= 10; i++) {
            int what = i;
            due("asked again", asksOnly(x -> x.count(what)), 1);
        }
    }

    /** 1, if the call answers the same when it is repeated, and leaves all as it was. */
    private static int asksOnly(Call c) {
        DredgeWays x = inUse();
        int answer = c.on(x);
        int again = c.on(x);
        Seen.nowAndLater(x).dueLike(checks, "asked only", Seen.nowAndLater(inUse()));
        return answer == again ? 1 : 0;
    }
}
