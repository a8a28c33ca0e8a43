import java.util.ArrayList;
import java.util.List;

/**
 * A run of calls on a new object. Each call is kept, so that the run can be made again on other objects:
 * with the latest call and without it they tell whether it has changed something.
 */
final class Run {
    static final int NULL = -11, INDEX = -12, SIZE = -13, STORE = -14, JOB = -15;
    static final int BAD = -1, FULL = -2, NONE = -3, RING = -4;
    static final int MIN = Integer.MIN_VALUE, MAX = Integer.MAX_VALUE;
    static final long TOLD_BAD = 10000000001L, TOLD_NULL = 10000000011L, TOLD_INDEX = 10000000012L;
    private static final int MOST_CALLS = 512;

    private interface Call {
        long on(TwoBenches x);
    }

    /** What a call answered; it is looked at before the next call is made. */
    static final class Answer {
        private final Run run;
        private final String call;
        private final long got;

        private Answer(Run run, String call, long got) {
            this.run = run;
            this.call = call;
            this.got = got;
        }

        void is(long want) {
            run.due.is(call, got, want);
        }

        void isRefused(long want) {
            changesNothing(want);
        }

        void changesNothing(long want) {
            is(want);
            run.leavesState(call);
            run.leavesRing(call);
        }

        /** RING is answered, ring() tells these JOBS, and nothing else has changed. */
        void isRing(int... jobs) {
            is(RING);
            run.leavesState(call);
            run.ringIs(jobs);
        }
    }

    private final Due due;
    private final TwoBenches x = new TwoBenches();
    private final List<Call> calls = new ArrayList<>();

    Run(Due due) {
        this.due = due;
    }

    /** A run on another new object. */
    Run another() {
        return new Run(due);
    }

    // ---- the calls of the document

    Answer sheet(int r, int kind, int n) {
        return make(y -> y.sheet(r, kind, n), "sheet", r, kind, n);
    }

    Answer put(int r, int i, int v) {
        return make(y -> y.put(r, i, v), "put", r, i, v);
    }

    Answer copy(int r, int i, int t, int j, int n) {
        return make(y -> y.copy(r, i, t, j, n), "copy", r, i, t, j, n);
    }

    Answer told(int r, int i) {
        return make(y -> y.told(r, i), "told", r, i);
    }

    Answer job(int kind, int a, int b) {
        return make(y -> y.job(kind, a, b), "job", kind, a, b);
    }

    Answer after(int a, int b) {
        return make(y -> y.after(a, b), "after", a, b);
    }

    Answer read(int a, int r, int i, int n) {
        return make(y -> y.read(a, r, i, n), "read", a, r, i, n);
    }

    Answer free(int a, int b) {
        return make(y -> y.free(a, b), "free", a, b);
    }

    Answer ring(int k) {
        return make(y -> y.ring(k), "ring", k);
    }

    Answer about(int a, int what) {
        return make(y -> y.about(a, what), "about", a, what);
    }

    Answer undo() {
        return make(TwoBenches::undo, "undo");
    }

    Answer least() {
        return make(TwoBenches::least, "least");
    }

    Answer day(int hour, int i) {
        return make(y -> y.day(hour, i), "day", hour, i);
    }

    Answer idle(int i) {
        return make(y -> y.idle(i), "idle", i);
    }

    Answer pairs() {
        return make(TwoBenches::pairs, "pairs");
    }

    Answer rest(int hour) {
        return make(y -> y.rest(hour), "rest", hour);
    }

    Answer kept() {
        return make(TwoBenches::kept, "kept");
    }

    Answer code(int hour) {
        return make(y -> y.code(hour), "code", hour);
    }

    Answer check(long hours) {
        return make(y -> y.check(hours), "check", hours);
    }

    Answer count(int what) {
        return make(y -> y.count(what), "count", what);
    }

    // ---- what the tests do and ask again and again

    /** So many JOBS without bounds more. */
    Run jobs(int n) {
        for (int k = 0; k < n; k++) {
            job(0, 0, 0);
        }
        return this;
    }

    /** So many JOBS more, each but the first of them WAITING FOR the one ahead. */
    Run chain(int n) {
        int first = x.count(0);
        jobs(n);
        for (int a = first + 1; a < first + n; a++) {
            after(a, a - 1);
        }
        return this;
    }

    Run fill(int r, int kind, int... values) {
        sheet(r, kind, values.length);
        for (int i = 0; i < values.length; i++) {
            put(r, i, values[i]);
        }
        return this;
    }

    void rowIs(int r, long... values) {
        for (int i = 0; i < values.length; i++) {
            told(r, i).is(values[i]);
        }
        told(r, values.length).is(TOLD_INDEX);
    }

    void ringIs(int... jobs) {
        for (int k = 0; k < jobs.length; k++) {
            ring(k).is(jobs[k]);
        }
        for (int k = jobs.length; k <= 11; k++) {
            ring(k).is(NONE);
        }
    }

    /** What about() tells of JOBS 0, 1, .. */
    void aboutIs(int what, int... answers) {
        for (int a = 0; a < answers.length; a++) {
            about(a, what).is(answers[a]);
        }
    }

    /** The LENGTH and the CODES of THE KEPT DAY. */
    void codesAre(int... codes) {
        kept().is(codes.length);
        for (int hour = 1; hour <= codes.length; hour++) {
            code(hour).is(codes[hour - 1]);
        }
        code(codes.length + 1).is(NONE);
    }

    /** THE DAY by LABELS, two places for each HOUR. */
    void dayIs(int... jobs) {
        least().is(jobs.length / 2);
        for (int k = 0; k < jobs.length; k++) {
            day(1 + k / 2, k % 2).is(jobs[k]);
        }
        day(1 + jobs.length / 2, 0).is(NONE);
        day(1 + jobs.length / 2, 1).is(NONE);
    }

    /** HOURS of JOBS 0, 1, .. as check() takes them. */
    static long hours(int... hours) {
        long all = 0;
        for (int a = 0; a < hours.length; a++) {
            all |= (long) hours[a] << 6 * a;
        }
        return all;
    }

    private Answer make(Call call, String name, long... arguments) {
        calls.add(call);
        StringBuilder text = new StringBuilder(name).append("(");
        for (int k = 0; k < arguments.length; k++) {
            text.append(k == 0 ? "" : ", ").append(arguments[k]);
        }
        text.append(")");
        if (calls.size() > MOST_CALLS) {
            due.holds(text + " is call 512 at most", false);
        }
        return new Answer(this, text.toString(), call.on(x));
    }

    /** Another object on which the same calls were made, but for so many of the latest. */
    private TwoBenches again(int butFor) {
        TwoBenches y = new TwoBenches();
        for (int k = 0; k < calls.size() - butFor; k++) {
            calls.get(k).on(y);
        }
        return y;
    }

    private void leavesState(String call) {
        alike(call, View.ofState(again(0)), View.ofState(again(1)));
        alike(call, View.ofPast(again(0)), View.ofPast(again(1)));
    }

    private void leavesRing(String call) {
        alike(call, View.ofRing(again(0)), View.ofRing(again(1)));
    }

    private void alike(String call, List<String> with, List<String> without) {
        String differs = "the number of answers";
        for (int k = 0; k < Math.min(with.size(), without.size()); k++) {
            if (!with.get(k).equals(without.get(k))) {
                differs = with.get(k) + ", and without it " + without.get(k);
                break;
            }
        }
        due.holds(call + " changes nothing: " + differs, with.equals(without));
    }
}
