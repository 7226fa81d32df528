/** Objects as the tests need them. */
final class Boards {
    private Boards() {
    }

    static DredgeWays ways(int columns, int rows) {
        DredgeWays x = new DredgeWays();
        x.board(columns, rows);
        return x;
    }

    /** A board of one row whose cells have these depths and this design. */
    static DredgeWays row(int design, int... depths) {
        DredgeWays x = ways(depths.length, 1);
        for (int c = 0; c < depths.length; c++) {
            x.lay(c, 0, depths[c]);
            x.lay(c, 1, design);
        }
        return x;
    }

    /** A trip of one minute, in which as much is dug as is wanted and so little overflows that none is raised by it. */
    static int dig(DredgeWays x, int row, int a, int b, int wanted) {
        x.hold(1, wanted);
        return x.trip(row, a, b, 1, 0);
    }

    /** A board without any design and with the nearest spots, so that a trip takes three hours and only clouds come. */
    static DredgeWays undrawn(int columns, int rows) {
        DredgeWays x = ways(columns, rows);
        for (int s = 0; s < 3; s++) x.spot(s, 1000, 1);
        return x;
    }
}
