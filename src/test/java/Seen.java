import java.util.ArrayList;
import java.util.List;

/** All that can be seen of a board of few cells by calls, so that two objects can be compared; within the 512 calls. */
final class Seen {
    private static final int SPOTS = 3, POSTS = 8, SHEETS = 6, ROUND = 12, MINUTES = 30;

    private final DredgeWays x;
    private final List<String> calls = new ArrayList<>();
    private final List<Integer> answers = new ArrayList<>();

    private Seen(DredgeWays x) {
        this.x = x;
    }

    /** What can be seen now, and what is seen when hours and a trip have gone by (posts' limits show by them alone). */
    static Seen nowAndLater(DredgeWays x) {
        Seen seen = new Seen(x);
        seen.look();
        seen.add("later, hours(25)", x.hours(25));
        seen.add("later, trip", x.trip(0, x.count(0) - 1, 0, 30, 2));
        seen.lookAtBoard();
        seen.lookAtRest();
        return seen;
    }

    private void add(String call, int answer) {
        calls.add(call);
        answers.add(answer);
    }

    private void look() {
        lookAtBoard();
        lookAtRest();
        lookAtSheets();
        lookAtRules();
        lookAtTable();
    }

    private void lookAtBoard() {
        for (int what = 0; what <= 10; what++) add("count(" + what + ")", x.count(what));
        int cells = x.count(0) * x.count(1);
        for (int c = 0; c < cells; c++) {
            for (int what = 0; what <= 3; what++) add("cell(" + c + ", " + what + ")", x.cell(c, what));
        }
    }

    private void lookAtRest() {
        for (int s = 0; s < SPOTS; s++) {
            for (int what = 0; what <= 2; what++) add("about(" + s + ", " + what + ")", x.about(s, what));
        }
        for (int p = 0; p < POSTS; p++) add("broken(" + p + ")", x.broken(p));
    }

    private void lookAtSheets() {
        int cells = x.count(0) * x.count(1);
        for (int s = 0; s < SHEETS; s++) {
            for (int c = 0; c < cells; c++) add("sounded(" + s + ", " + c + ")", x.sounded(s, c));
        }
    }

    /** What was there is answered by setting it; it is set back at once. */
    private void lookAtRules() {
        for (int what = 0; what <= 4; what++) {
            int was = x.rule(what, 0);
            x.rule(what, was);
            add("rule " + what, was);
        }
        for (int hour = 0; hour < ROUND; hour++) {
            int was = x.tide(hour, 0);
            x.tide(hour, was);
            add("tide " + hour, was);
        }
    }

    /** From the end on, each set to what is behind it: so no other one of the table changes. */
    private void lookAtTable() {
        int next = 200;
        for (int t = MINUTES; t >= 1; t--) {
            int was = x.hold(t, next);
            x.hold(t, was);
            add("hold " + t, was);
            next = was;
        }
    }

    /** Every answer that is not as in the other one is told to the checks. */
    void dueLike(Checks checks, String after, Seen want) {
        checks.due(after + ": so many answers", answers.size(), want.answers.size());
        for (int i = 0; i < Math.min(answers.size(), want.answers.size()); i++) {
            checks.due(after + ": then " + calls.get(i), answers.get(i), want.answers.get(i));
        }
    }
}
