import java.util.ArrayList;
import java.util.List;

/** All that an object answers, as a row of texts, so that two objects can be compared. */
final class View {
    private static final int SHEETS = 6, JOBS = 10, MOST_LENGTH = 50;

    private final TwoBenches x;
    private final List<String> rows = new ArrayList<>();

    private View(TwoBenches x) {
        this.x = x;
    }

    /** What can be asked without a change, but for the RING. */
    static List<String> ofState(TwoBenches x) {
        View view = new View(x);
        view.addSheets();
        view.addJobs();
        view.addDays();
        return view.rows;
    }

    static List<String> ofRing(TwoBenches x) {
        View view = new View(x);
        for (int k = 0; k <= JOBS; k++) {
            view.add("ring " + k, x.ring(k));
        }
        return view.rows;
    }

    /** What only changes tell: what the SHEETS keep, and which JOBS and waits each undo() leaves. */
    static List<String> ofPast(TwoBenches x) {
        View view = new View(x);
        view.addSorts();
        for (int k = 0; k <= 20; k++) {
            view.add("undo " + k, x.undo());
            view.add("undone " + k + ", JOBS", x.count(0));
            for (int a = 0; a < x.count(0); a++) {
                view.add("undone " + k + ", waits of " + a, x.about(a, 4));
            }
        }
        return view.rows;
    }

    private void add(String what, long answer) {
        rows.add(what + ": " + answer);
    }

    private void addSheets() {
        for (int r = 0; r < SHEETS; r++) {
            long answer = 0;
            for (int i = 0; i <= 16 && answer < 10000000001L; i++) {
                answer = x.told(r, i);
                add("told " + r + " " + i, answer);
            }
        }
    }

    private void addJobs() {
        for (int what = 0; what <= 4; what++) {
            add("count " + what, x.count(what));
        }
        for (int a = 0; a < x.count(0); a++) {
            for (int what = 0; what <= 11; what++) {
                add("about " + a + " " + what, x.about(a, what));
            }
        }
    }

    private void addDays() {
        add("least", x.least());
        add("pairs", x.pairs());
        add("kept", x.kept());
        for (int hour = 1; hour <= x.least(); hour++) {
            add("day " + hour + " 0", x.day(hour, 0));
            add("day " + hour + " 1", x.day(hour, 1));
            add("idle " + hour, x.idle(hour - 1));
        }
        for (int hour = 1; hour <= MOST_LENGTH && hour <= x.kept(); hour++) {
            add("code " + hour, x.code(hour));
        }
    }

    private void addSorts() {
        for (int r = 0; r < SHEETS; r++) {
            for (int t = 0; t < r; t++) {
                add("copy " + r + " " + t, x.copy(r, 0, t, 0, 0));
            }
            add("put " + r, x.put(r, 0, 100000));
            add("told of " + r, x.told(r, 0));
        }
    }
}
