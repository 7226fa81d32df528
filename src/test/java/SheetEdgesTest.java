/** Edges of part 4 (promises 12 to 16) and of what is told of CELLS, SPOTS and numbers (17, 18 and 20). */
public final class SheetEdgesTest {
    private static final int NO = -2, NONE = -4;
    private static final int OVER = 0;
    private static final int VOLUME = 0, PAY = 1, UNKNOWN = 2;
    private static final Checks checks = new Checks("SheetEdgesTest");

    public static void main(String[] args) {
        soundsNoDepthAndMost();
        soundsAnew();
        missingOrAllGaps();
        losesOnce();
        joinsNoneOneAll();
        joinsWithItself();
        volumeAroundNothing();
        volumeOfTheGreatestBoard();
        volumeOfGaps();
        payFromDesignOn();
        payToDesignAndOver();
        payNothingAtLeast();
        payByOver();
        payOfDrawnCells();
        payOfKnownCells();
        unknownNoneToAll();
        unknownOfDrawnCells();
        sheetsOfAnOldBoard();
        sheetsOfAGreaterBoard();
        sheetsByThemselves();
        tellsWhatWas();
        notYetAtDesign();
        countsAreCounted();
        spotsTellThemselves();
        checks.end();
    }

    private static void due(String call, long got, long want) {
        checks.due(call, got, want);
    }

    // Promises 12 and 16: 0 and 400 are DEPTHS, a GAP is NONE.
    private static void soundsNoDepthAndMost() {
        DredgeWays x = Boards.row(0, 0, 400, 1);
        for (int s = 0; s <= 5; s++) {
            due("MISSING", x.sounded(s, 0), NO);
            due("sound", x.sound(s), 0);
            due("DEPTH 0", x.sounded(s, 0), 0);
            due("DEPTH 400", x.sounded(s, 1), 400);
            due("DEPTH 1", x.sounded(s, 2), 1);
        }
    }

    private static void soundsAnew() {
        DredgeWays x = Boards.row(0, 3, 4);
        x.sound(0);
        x.lose(0, 0);
        x.lay(1, 0, 9);
        due("as it was", x.sounded(0, 1), 4);
        due("sound again", x.sound(0), 0);
        due("as it is", x.sounded(0, 1), 9);
        due("no GAP", x.sounded(0, 0), 3);
    }

    // Promise 13: MISSING is another thing than a GAP in each CELL.
    private static void missingOrAllGaps() {
        DredgeWays x = Boards.row(0, 3);
        due("MISSING", x.lose(0, 0), NO);
        due("MISSING", x.sounded(0, 0), NO);
        x.sound(0);
        due("the only one", x.lose(0, 0), 1);
        due("all GAPS", x.lose(0, 0), 0);
        due("all GAPS", x.sounded(0, 0), NONE);
        due("all GAPS", x.join(0, 0), 0);
        due("all GAPS", x.between(0, 0, VOLUME), 0);
    }

    private static void losesOnce() {
        DredgeWays x = Boards.ways(12, 10);
        x.sound(5);
        x.sound(4);
        int[] cells = {0, 11, 12, 108, 119};
        for (int c : cells) {
            due("lose", x.lose(5, c), 1);
            due("lose again", x.lose(5, c), 0);
            due("a GAP", x.sounded(5, c), NONE);
            due("none in another sheet", x.sounded(4, c), 0);
        }
        due("beside it", x.sounded(5, 1), 0);
        due("beside it", x.sounded(5, 118), 0);
    }

    // Promise 14: "how many it got".
    private static void joinsNoneOneAll() {
        DredgeWays x = Boards.row(0, 1, 2, 3);
        x.sound(0);
        for (int c = 0; c < 3; c++) x.lay(c, 0, 10 * (c + 1));
        x.sound(1);
        due("no GAPS", x.join(0, 1), 0);
        due("known stays", x.sounded(0, 2), 3);
        x.lose(0, 2);
        due("one GAP", x.join(0, 1), 1);
        due("got", x.sounded(0, 2), 30);
        due("known stays", x.sounded(0, 1), 2);
        for (int c = 0; c < 3; c++) x.lose(0, c);
        x.lose(1, 1);
        due("all GAPS, one there too", x.join(0, 1), 2);
        due("got", x.sounded(0, 0), 10);
        due("not known there", x.sounded(0, 1), NONE);
        due("got", x.sounded(0, 2), 30);
        due("nothing more to get", x.join(0, 1), 0);
        for (int c = 0; c < 3; c++) x.lose(1, c);
        due("nothing is known there", x.join(0, 1), 0);
        due("all of it", x.join(1, 0), 2);
    }

    private static void joinsWithItself() {
        DredgeWays x = Boards.row(0, 1, 2);
        x.sound(3);
        x.lose(3, 1);
        due("with itself", x.join(3, 3), 0);
        due("with itself", x.sounded(3, 0), 1);
        due("with itself", x.sounded(3, 1), NONE);
    }

    private static DredgeWays sheets(int design, int before, int after) {
        DredgeWays x = Boards.row(design, before);
        x.sound(0);
        x.lay(0, 0, after);
        x.sound(1);
        return x;
    }

    // Promise 15: "what is deeper, less what is less deep".
    private static void volumeAroundNothing() {
        due("as deep", sheets(0, 7, 7).between(0, 1, VOLUME), 0);
        due("1 deeper", sheets(0, 7, 8).between(0, 1, VOLUME), 1);
        due("1 less deep", sheets(0, 7, 6).between(0, 1, VOLUME), -1);
        due("2 less deep is no NO", sheets(0, 7, 5).between(0, 1, VOLUME), -2);
        due("from 0 to 400", sheets(0, 0, 400).between(0, 1, VOLUME), 400);
        due("from 400 to 0", sheets(0, 400, 0).between(0, 1, VOLUME), -400);
        due("the other way", sheets(0, 7, 8).between(1, 0, VOLUME), -1);
        due("with itself", sheets(0, 7, 8).between(1, 1, VOLUME), 0);
        DredgeWays x = Boards.row(0, 5, 5, 5);
        x.sound(0);
        x.lay(0, 0, 9);
        x.lay(1, 0, 1);
        x.sound(1);
        due("one deeper, one less deep", x.between(0, 1, VOLUME), 0);
    }

    private static void volumeOfTheGreatestBoard() {
        DredgeWays x = Boards.ways(12, 10);
        x.sound(0);
        for (int c = 0; c < 120; c++) x.lay(c, 0, 400);
        x.sound(5);
        due("all deepest", x.between(0, 5, VOLUME), 48000);
        due("all filled", x.between(5, 0, VOLUME), -48000);
        due("none is drawn", x.between(0, 5, PAY), 0);
        x.rule(OVER, 50);
        for (int c = 0; c < 120; c++) x.lay(c, 1, 300);
        due("all paid", x.between(0, 5, PAY), 120 * 350);
        due("all known", x.between(0, 5, UNKNOWN), 0);
        x.lose(0, 119);
        due("the last", x.between(0, 5, VOLUME), 47600);
        due("the last", x.between(0, 5, PAY), 119 * 350);
        due("the last", x.between(0, 5, UNKNOWN), 1);
    }

    // "over CELLS known in both".
    private static void volumeOfGaps() {
        DredgeWays x = Boards.row(0, 1, 1, 1, 1);
        x.sound(0);
        for (int c = 0; c < 4; c++) x.lay(c, 0, 2 << c);
        x.sound(1);
        due("all known", x.between(0, 1, VOLUME), 1 + 3 + 7 + 15);
        x.lose(0, 0);
        due("not ahead", x.between(0, 1, VOLUME), 3 + 7 + 15);
        x.lose(1, 3);
        due("not behind", x.between(0, 1, VOLUME), 3 + 7);
        x.lose(1, 0);
        due("in neither", x.between(0, 1, VOLUME), 3 + 7);
        x.lose(0, 1);
        x.lose(0, 2);
        due("nothing known in both", x.between(0, 1, VOLUME), 0);
    }

    // "that is at DESIGN at least in the latter": DESIGN 10, OVER 5.
    private static void payFromDesignOn() {
        due("1 short of DESIGN", sheets(10, 0, 9).between(0, 1, PAY), 0);
        due("at DESIGN", sheets(10, 0, 10).between(0, 1, PAY), 10);
        due("1 below DESIGN", sheets(10, 0, 11).between(0, 1, PAY), 11);
        due("from 1 short to DESIGN", sheets(10, 9, 10).between(0, 1, PAY), 1);
        due("the least DESIGN, short of it", sheets(1, 0, 0).between(0, 1, PAY), 0);
        due("the least DESIGN", sheets(1, 0, 1).between(0, 1, PAY), 1);
        due("the greatest DESIGN, short of it", sheets(300, 0, 299).between(0, 1, PAY), 0);
        due("the greatest DESIGN", sheets(300, 0, 300).between(0, 1, PAY), 300);
    }

    // "what it is deeper, as far as that is not below DESIGN and OVER".
    private static void payToDesignAndOver() {
        due("1 short of OVER", sheets(10, 0, 14).between(0, 1, PAY), 14);
        due("at OVER", sheets(10, 0, 15).between(0, 1, PAY), 15);
        due("1 below OVER", sheets(10, 0, 16).between(0, 1, PAY), 15);
        due("far below OVER", sheets(10, 0, 400).between(0, 1, PAY), 15);
        due("from 1 short of OVER", sheets(10, 14, 20).between(0, 1, PAY), 1);
    }

    // "(0 at least)".
    private static void payNothingAtLeast() {
        due("from OVER on", sheets(10, 15, 20).between(0, 1, PAY), 0);
        due("from below OVER on", sheets(10, 16, 20).between(0, 1, PAY), 0);
        due("as deep", sheets(10, 12, 12).between(0, 1, PAY), 0);
        due("1 less deep", sheets(10, 12, 11).between(0, 1, PAY), 0);
        due("less deep, from below OVER", sheets(10, 30, 11).between(0, 1, PAY), 0);
        DredgeWays x = Boards.row(10, 12, 9);
        x.sound(0);
        x.lay(0, 0, 10);
        x.lay(1, 0, 12);
        x.sound(1);
        due("what is less deep is not taken off", x.between(0, 1, PAY), 3);
    }

    private static void payByOver() {
        int[] overs = {0, 1, 49, 50};
        for (int over : overs) {
            DredgeWays x = sheets(10, 4, 400);
            x.rule(OVER, over);
            due("OVER " + over, x.between(0, 1, PAY), 6 + over);
        }
    }

    // "of each CELL with a DESIGN".
    private static void payOfDrawnCells() {
        DredgeWays x = sheets(0, 0, 5);
        due("none is drawn", x.between(0, 1, PAY), 0);
        x.lay(0, 1, 1);
        due("drawn since", x.between(0, 1, PAY), 5);
        x.lay(0, 1, 5);
        due("at DESIGN", x.between(0, 1, PAY), 5);
        x.lay(0, 1, 6);
        due("short of DESIGN", x.between(0, 1, PAY), 0);
    }

    // "known in both".
    private static void payOfKnownCells() {
        DredgeWays x = Boards.row(10, 0, 0, 0);
        x.sound(0);
        for (int c = 0; c < 3; c++) x.lay(c, 0, 10 + c);
        x.sound(1);
        due("all", x.between(0, 1, PAY), 33);
        x.lose(0, 0);
        due("not ahead", x.between(0, 1, PAY), 23);
        x.lose(1, 1);
        due("not behind", x.between(0, 1, PAY), 12);
        x.lose(0, 2);
        due("none", x.between(0, 1, PAY), 0);
    }

    // "UNKNOWN: CELLS with a DESIGN that are not known in both".
    private static void unknownNoneToAll() {
        DredgeWays x = Boards.row(10, 0, 0, 0);
        x.sound(0);
        x.sound(1);
        due("none", x.between(0, 1, UNKNOWN), 0);
        x.lose(0, 0);
        due("not ahead", x.between(0, 1, UNKNOWN), 1);
        due("not behind", x.between(1, 0, UNKNOWN), 1);
        x.lose(1, 0);
        due("in neither is one still", x.between(0, 1, UNKNOWN), 1);
        x.lose(1, 1);
        x.lose(0, 2);
        due("all", x.between(0, 1, UNKNOWN), 3);
        due("with itself", x.between(0, 0, UNKNOWN), 2);
    }

    private static void unknownOfDrawnCells() {
        DredgeWays x = Boards.row(0, 0, 0);
        x.sound(0);
        x.sound(1);
        x.lose(0, 0);
        x.lose(1, 1);
        due("none is drawn", x.between(0, 1, UNKNOWN), 0);
        x.lay(0, 1, 1);
        due("one is drawn", x.between(0, 1, UNKNOWN), 1);
        x.lay(1, 1, 300);
        due("two are drawn", x.between(0, 1, UNKNOWN), 2);
    }

    /** Promise 2: SHEETS are MISSING on a new board, and nothing of the old one is in them. */
    private static void sheetsOfAnOldBoard() {
        DredgeWays x = Boards.ways(12, 10);
        x.lay(119, 0, 400);
        x.sound(0);
        x.lose(0, 118);
        x.board(1, 1);
        due("MISSING", x.sounded(0, 0), NO);
        x.sound(0);
        x.board(12, 10);
        due("MISSING", x.sounded(0, 119), NO);
        x.sound(0);
        due("the new depth", x.sounded(0, 119), 0);
        due("no GAP", x.sounded(0, 118), 0);
    }

    /** A smaller board: the cells that it has not any more are in no sounding. */
    private static void sheetsOfAGreaterBoard() {
        DredgeWays x = Boards.ways(12, 10);
        x.sound(0);
        for (int c = 0; c < 120; c++) x.lay(c, 0, 400);
        x.sound(1);
        for (int c = 0; c < 12; c++) x.lose(0, c);
        x.board(3, 1);
        x.sound(0);
        x.sound(1);
        due("nothing to get", x.join(0, 1), 0);
        due("nothing deeper", x.between(0, 1, VOLUME), 0);
        due("nothing unknown", x.between(0, 1, UNKNOWN), 0);
        x.board(4, 1);
        x.sound(0);
        due("the new one of a greater", x.sounded(0, 3), 0);
    }

    /** On the greatest board nothing of a sheet's first and last cell gets into the sheets beside it. */
    private static void sheetsByThemselves() {
        DredgeWays x = Boards.ways(12, 10);
        for (int s = 0; s <= 5; s++) soundEnds(x, s, 10 + 3 * s, 100 + 7 * s);
        soundEnds(x, 2, 50, 60);
        for (int s = 0; s <= 5; s++) dueEnds("sound", x, s, s == 2 ? 50 : 10 + 3 * s, s == 2 ? 60 : 100 + 7 * s);
        due("2 to 4", x.between(2, 4, VOLUME), 22 - 50 + 128 - 60);
        due("0 to 5", x.between(0, 5, VOLUME), 25 - 10 + 135 - 100);
        due("4 to 1", x.between(4, 1, VOLUME), 13 - 22 + 107 - 128);
        due("lose", x.lose(3, 0), 1);
        due("lose", x.lose(1, 119), 1);
        due("no GAPS in 2", x.join(2, 4), 0);
        dueEnds("join", x, 1, 13, NONE);
        dueEnds("join", x, 3, NONE, 121);
        x.lose(2, 0);
        x.lose(2, 119);
        due("two GAPS in 2", x.join(2, 4), 2);
        dueEnds("join", x, 1, 13, NONE);
        dueEnds("join", x, 2, 22, 128);
        dueEnds("join", x, 3, NONE, 121);
    }

    private static void soundEnds(DredgeWays x, int s, int first, int last) {
        x.lay(0, 0, first);
        x.lay(119, 0, last);
        due("sound", x.sound(s), 0);
    }

    private static void dueEnds(String after, DredgeWays x, int s, int first, int last) {
        due(after + ": first of " + s, x.sounded(s, 0), first);
        due(after + ": last of " + s, x.sounded(s, 119), last);
    }

    /** Promises 3 to 7: the answer is what it was, or what it holds. */
    private static void tellsWhatWas() {
        DredgeWays x = new DredgeWays();
        due("lay", x.lay(0, 0, 3), 0);
        due("lay the same", x.lay(0, 0, 3), 3);
        due("lay", x.lay(0, 1, 4), 0);
        due("lay the same", x.lay(0, 1, 4), 4);
        due("rule the same", x.rule(OVER, 5), 5);
        due("tide the same", x.tide(0, 0), 0);
        due("hold the same", x.hold(30, 30), 30);
        due("spot the same", x.spot(0, 1000, 2), 0);
    }

    // Promise 20: "CELLS with a DESIGN not yet at it".
    private static void notYetAtDesign() {
        int[][] cells = {{0, 0, 0}, {0, 1, 1}, {1, 1, 0}, {2, 1, 0}, {299, 300, 1}, {300, 300, 0}, {301, 300, 0}, {400, 0, 0}};
        for (int[] c : cells) {
            due("DEPTH " + c[0] + ", DESIGN " + c[1], Boards.row(c[1], c[0]).count(9), c[2]);
        }
        DredgeWays x = Boards.ways(12, 10);
        for (int c = 0; c < 120; c++) {
            x.lay(c, 1, 2);
            due("one more", x.count(9), c + 1);
        }
        due("dug, but not yet at it", Boards.dig(x, 9, 11, 11, 1), 1);
        due("dug, but not yet at it", x.count(9), 120);
        due("dug to it", Boards.dig(x, 9, 11, 11, 1), 1);
        due("dug to it", x.count(9), 119);
    }

    /** Promise 20: TRIPS count that were done, STUFF that was dug, CLOUD that came; refused ones don't. */
    private static void countsAreCounted() {
        DredgeWays x = Boards.row(10, 0);
        x.spot(0, 3, 2);
        due("too much", x.trip(0, 0, 0, 4, 0), NO);
        due("TRIPS", x.count(3), 0);
        due("just as much", x.trip(0, 0, 0, 3, 0), 3);
        due("nothing", x.trip(0, 0, 0, 0, 0), 0);
        due("TRIPS", x.count(3), 2);
        due("STUFF", x.count(4), 3);
        due("CLOUD", x.count(5), 9);
        due("POSTS", x.count(10), 0);
        x.post(0, 0);
        due("POSTS", x.count(10), 1);
    }

    // Promise 18: "1000 each at first", "2 at first".
    private static void spotsTellThemselves() {
        DredgeWays x = Boards.row(10, 0);
        for (int s = 0; s <= 2; s++) {
            due("holds", x.about(s, 0), 0);
            due("may", x.about(s, 1), 1000);
            due("HOURS", x.about(s, 2), 2);
        }
        x.trip(0, 0, 0, 5, 1);
        due("STUFF at it", x.about(1, 0), 5);
        due("none at another", x.about(0, 0), 0);
        due("none at another", x.about(2, 0), 0);
        x.spot(1, 5, 20);
        due("STUFF stays", x.about(1, 0), 5);
        due("may", x.about(1, 1), 5);
        due("HOURS", x.about(1, 2), 20);
        due("another may", x.about(2, 1), 1000);
    }
}
