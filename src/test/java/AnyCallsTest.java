import java.util.Random;

/** Long runs of any calls, many of them wrong: answers as a second reading has them, and all that was dug is somewhere. */
public final class AnyCallsTest {
    private static final int RUNS = 3000, CALLS = 512;
    private static final int[] WILD = {Integer.MIN_VALUE, Integer.MAX_VALUE, -1, 1 << 30, -(1 << 30), 65536, 1000001};

    private static final Checks checks = new Checks("AnyCallsTest");

    private final Random random;
    private final DredgeWays x = new DredgeWays();
    private final SecondReading y = new SecondReading();
    private final String run;
    private final int wildness;

    private AnyCallsTest(int seed) {
        random = new Random(seed);
        run = "run " + seed;
        wildness = seed % 3 == 0 ? 6 : seed % 3 == 1 ? 40 : 400;
    }

    public static void main(String[] args) {
        for (int seed = 0; seed < RUNS && !checks.failed(); seed++) new AnyCallsTest(seed).go();
        checks.end();
    }

    /** Mostly from least to most, now and then one beside it or wild. */
    private int some(int least, int most) {
        if (random.nextInt(wildness) == 0) {
            int kind = random.nextInt(4);
            return kind == 0 ? least - 1 : kind == 1 ? most + 1 : WILD[random.nextInt(WILD.length)];
        }
        int kind = random.nextInt(12);
        return kind == 0 ? least : kind == 1 ? most : least + random.nextInt(most - least + 1);
    }

    private int someCell() {
        return some(0, x.count(0) * x.count(1) - 1);
    }

    private void go() {
        boolean small = random.nextBoolean();
        same("board", x.board(small ? 4 : 12, small ? 2 : 10), y.board(small ? 4 : 12, small ? 2 : 10));
        if (random.nextInt(4) > 0) drawAll(small ? 12 : 60);
        for (int i = 0; i < CALLS && !checks.failed(); i++) call();
        look();
    }

    private void drawAll(int deepest) {
        for (int c = 0; c < x.count(0) * x.count(1); c++) {
            int design = random.nextInt(3) == 0 ? 0 : random.nextInt(deepest) + 1, depth = random.nextInt(deepest);
            same("lay", x.lay(c, 1, design), y.lay(c, 1, design));
            same("lay", x.lay(c, 0, depth), y.lay(c, 0, depth));
        }
    }

    private void same(String call, int got, int want) {
        checks.due(run + ", " + call, got, want);
    }

    private void call() {
        int kind = random.nextInt(100);
        if (kind < 30) trip();
        else if (kind < 50) set();
        else if (kind < 56) hours();
        else if (kind < 75) sheets();
        else ask();
        if (random.nextInt(40) == 0) look();
    }

    private void trip() {
        int r = some(0, x.count(1) - 1), a = some(0, x.count(0) - 1), b = some(0, x.count(0) - 1);
        int t = some(0, 30), s = some(0, 2);
        same("trip(" + r + ", " + a + ", " + b + ", " + t + ", " + s + ")", x.trip(r, a, b, t, s), y.trip(r, a, b, t, s));
    }

    private void hours() {
        int n = random.nextBoolean() ? some(1, 30) : some(1, 200);
        same("hours(" + n + ")", x.hours(n), y.hours(n));
    }

    private void set() {
        int kind = random.nextInt(60);
        int a, b, c;
        if (kind == 0) {
            same("board", x.board(a = some(1, 12), b = some(1, 10)), y.board(a, b));
        } else if (kind < 15) {
            same("lay", x.lay(a = someCell(), b = some(0, 1), c = some(0, random.nextInt(10) == 0 ? 400 : 30)), y.lay(a, b, c));
        } else if (kind < 25) {
            a = some(0, 4);
            b = a == 4 ? some(-1, 1) : a == 0 ? some(0, 50) : a == 1 ? some(40, 130) : some(40, 150);
            same("rule", x.rule(a, b), y.rule(a, b));
        } else if (kind < 35) {
            same("tide", x.tide(a = some(0, 11), b = some(0, 60)), y.tide(a, b));
        } else if (kind < 45) {
            same("hold", x.hold(a = some(1, 30), b = some(0, 200)), y.hold(a, b));
        } else if (kind < 52) {
            same("spot", x.spot(a = some(0, 2), b = some(0, random.nextBoolean() ? 300 : 100000), c = some(1, 20)), y.spot(a, b, c));
        } else {
            same("post", x.post(a = someCell(), b = some(0, random.nextInt(5) == 0 ? 10000 : 40)), y.post(a, b));
        }
    }

    private void sheets() {
        int kind = random.nextInt(8);
        int s = some(0, 5), t = some(0, 5), c = someCell(), what = some(0, 2);
        if (kind == 0) same("sound", x.sound(s), y.sound(s));
        else if (kind < 4) same("lose", x.lose(s, c), y.lose(s, c));
        else if (kind == 4) same("join", x.join(s, t), y.join(s, t));
        else if (kind < 7) same("between", x.between(s, t, what), y.between(s, t, what));
        else same("sounded", x.sounded(s, c), y.sounded(s, c));
    }

    private void ask() {
        int c = someCell(), s = some(0, 2), what = some(0, 3), p = some(0, 7), n = some(0, 10);
        same("best", x.best(s), y.best(s));
        same("cell", x.cell(c, what), y.cell(c, what));
        same("about", x.about(s, what), y.about(s, what));
        same("broken", x.broken(p), y.broken(p));
        same("count", x.count(n), y.count(n));
    }

    /** All that can be seen, and the sums that must come out. */
    private void look() {
        int cells = x.count(0) * x.count(1);
        int afloat = 0;
        for (int c = 0; c < cells; c++) {
            for (int what = 0; what < 4; what++) same("cell " + c + ", " + what, x.cell(c, what), y.cell(c, what));
            for (int s = 0; s < 6; s++) same("sounded", x.sounded(s, c), y.sounded(s, c));
            afloat += x.cell(c, 2);
        }
        for (int n = 0; n <= 10; n++) same("count " + n, x.count(n), y.count(n));
        for (int p = 0; p < 8; p++) same("broken " + p, x.broken(p), y.broken(p));
        same("all that was dug is at a spot", x.about(0, 0) + x.about(1, 0) + x.about(2, 0), x.count(4));
        same("all that overflowed is somewhere", afloat + x.count(6) + x.count(7), x.count(5));
    }
}
