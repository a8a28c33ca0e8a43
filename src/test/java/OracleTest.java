import java.util.Random;

/** Runs of drawn calls, the same each time; each answer is compared with the Oracle's. */
public final class OracleTest {
    private static final int RUNS = 400, CALLS = 120, WIDE_RUNS = 40, RING_RUNS = 120, KEPT_RUNS = 60;
    private static final int MOST_CALLS = 512, CALLS_OF_ASK_ALL = 320;
    private static final int[] ODD = {Integer.MIN_VALUE, -2, -1, 41, 63, 64, 17, 1000, Integer.MAX_VALUE};

    private final Due due;
    private final Random random;
    private final int run;
    private final int mostJobs;
    private final int mostBound;
    private int calls = 0;
    private final TwoBenches x = new TwoBenches();
    private final Oracle y = new Oracle();

    private OracleTest(Due due, int run, int mostJobs) {
        this.due = due;
        this.run = run;
        this.random = new Random(run);
        this.mostJobs = mostJobs;
        this.mostBound = random.nextBoolean() ? 6 : random.nextBoolean() ? 12 : 40;
    }

    public static void main(String[] args) {
        Due due = new Due();
        for (int run = 0; run < RUNS && !due.failed(); run++) {
            new OracleTest(due, run, 2 + run % 6).draw(CALLS);
        }
        for (int run = RUNS; run < RUNS + WIDE_RUNS && !due.failed(); run++) {
            new OracleTest(due, run, 10).draw(CALLS);
        }
        for (int run = 0; run < RING_RUNS && !due.failed(); run++) {
            new OracleTest(due, run, 10).drawRings();
        }
        for (int run = 0; run < KEPT_RUNS && !due.failed(); run++) {
            new OracleTest(due, run, 10).drawKeptDays();
        }
        due.end();
    }

    /** Many JOBS with many waits, so that there are several ways round; some waits come and go. */
    private void drawRings() {
        int n = 6 + random.nextInt(5);
        for (int a = 0; a < n; a++) {
            is("job", x.job(0, 0, 0), y.job(0, 0, 0));
        }
        while (calls < MOST_CALLS - CALLS_OF_ASK_ALL - 14) {
            int a = random.nextInt(n);
            int b = random.nextInt(n);
            if (random.nextInt(8) == 0) {
                is("free " + a + " " + b, x.free(a, b), y.free(a, b));
            }
            is("after " + a + " " + b, x.after(a, b), y.after(a, b));
            for (int i = 0; i == 0 || i <= 10 && y.ring(i - 1) >= 0; i++) {
                is("ring " + i, x.ring(i), y.ring(i));
            }
        }
        askAll();
    }

    /** Ten JOBS of all KINDS with few waits, so that many days are to be told apart. */
    private void drawKeptDays() {
        int latest = 4 + random.nextInt(6);
        int plain = random.nextInt(4);
        for (int k = 0; k < 10; k++) {
            int kind = random.nextInt(4) < plain ? 0 : 1 + random.nextInt(3);
            int end = 1 + random.nextInt(latest);
            int a = kind == 3 ? random.nextInt(2) : kind == 2 ? 1 + random.nextInt(end) : 3 + end;
            is("job " + kind + " " + a + " " + end, x.job(kind, a, end + 2), y.job(kind, a, end + 2));
            is("kept", x.kept(), y.kept());
        }
        for (int k = 0; k < 8; k++) {
            int a = random.nextInt(10);
            int b = random.nextInt(10);
            is("after " + a + " " + b, x.after(a, b), y.after(a, b));
            askKept();
        }
    }

    private void askKept() {
        is("kept", x.kept(), y.kept());
        for (int h = 1; h <= 16; h++) {
            is("code " + h, x.code(h), y.code(h));
        }
        for (int a = 0; a < 10; a++) {
            is("about " + a + " 11", x.about(a, 11), y.about(a, 11));
        }
    }

    private void draw(int calls) {
        for (int k = 0; k < calls; k++) {
            int what = random.nextInt(100);
            if (what < 25) {
                drawSheetCall();
            } else if (what < 70) {
                drawJobCall();
            } else {
                drawDayCall();
            }
        }
        askAll();
    }

    private int upTo(int n) {
        return random.nextInt(25) == 0 ? ODD[random.nextInt(ODD.length)] : random.nextInt(n + 1);
    }

    private int aJob() {
        return upTo(Math.max(0, y.size() - (random.nextInt(20) == 0 ? 0 : 1)));
    }

    private void is(String call, long got, long want) {
        calls++;
        if (calls > MOST_CALLS) {
            due.holds("run " + run + ": " + call + " is call 512 at most", false);
        }
        due.is("run " + run + ": " + call, got, want);
    }

    private void drawSheetCall() {
        int r = upTo(2);
        int t = upTo(2);
        int i = upTo(5);
        int j = upTo(5);
        int n = upTo(4);
        int kind = random.nextInt(8) == 0 ? upTo(4) - 1 : random.nextInt(2);
        int v = random.nextInt(6) == 0 ? random.nextInt() : aJob();
        switch (random.nextInt(6)) {
            case 0: is("sheet " + r + " " + kind + " " + i, x.sheet(r, kind, i), y.sheet(r, kind, i)); break;
            case 1: is("told " + r + " " + i, x.told(r, i), y.told(r, i)); break;
            case 2: is("copy " + r + " " + i + " " + t + " " + j + " " + n,
                    x.copy(r, i, t, j, n), y.copy(r, i, t, j, n)); break;
            default: is("put " + r + " " + i + " " + v, x.put(r, i, v), y.put(r, i, v));
        }
    }

    private void drawJobCall() {
        int a = aJob();
        int b = aJob();
        int r = upTo(2);
        int i = upTo(4);
        int n = upTo(3);
        switch (random.nextInt(12)) {
            case 0:
            case 1: drawJob(); break;
            case 2:
            case 3:
            case 4: is("after " + a + " " + b, x.after(a, b), y.after(a, b)); break;
            case 5:
            case 6: is("read " + a + " " + r + " " + i + " " + n, x.read(a, r, i, n), y.read(a, r, i, n)); break;
            case 7: is("free " + a + " " + b, x.free(a, b), y.free(a, b)); break;
            case 8: is("ring " + i, x.ring(i), y.ring(i)); break;
            case 9: is("undo", x.undo(), y.undo()); break;
            default: int what = upTo(12); is("about " + a + " " + what, x.about(a, what), y.about(a, what));
        }
    }

    private void drawJob() {
        int kind = random.nextInt(2) == 0 ? 0 : upTo(4);
        int a = kind == 3 ? upTo(2) : 1 + upTo(mostBound - 1);
        int b = Math.max(a, 1 + upTo(mostBound - 1)) - (random.nextInt(9) == 0 ? 1 : 0);
        if (y.size() < mostJobs || mostJobs == 10) {
            is("job " + kind + " " + a + " " + b, x.job(kind, a, b), y.job(kind, a, b));
        }
    }

    private void drawDayCall() {
        int h = upTo(8);
        int i = upTo(2);
        switch (random.nextInt(9)) {
            case 0: is("least", x.least(), y.least()); break;
            case 1: is("day " + h + " " + i, x.day(h, i), y.day(h, i)); break;
            case 2: is("idle " + i, x.idle(i), y.idle(i)); break;
            case 3: is("pairs", x.pairs(), y.pairs()); break;
            case 4: is("rest " + h, x.rest(h), y.rest(h)); break;
            case 5: is("kept", x.kept(), y.kept()); break;
            case 6: is("code " + h, x.code(h), y.code(h)); break;
            case 7: drawCheck(); break;
            default: int what = upTo(5); is("count " + what, x.count(what), y.count(what));
        }
    }

    /** THE KEPT DAY or THE DAY by LABELS, with an HOUR changed now and then, or any bits. */
    private void drawCheck() {
        long hours = random.nextInt(3) == 0 ? random.nextLong() : 0;
        int what = random.nextBoolean() ? 10 : 11;
        for (int a = 0; a < y.size(); a++) {
            long hour = random.nextInt(12) == 0 ? random.nextInt(64) : Math.max(0, y.about(a, what));
            if (random.nextInt(30) != 0) {
                hours = hours & ~(63L << 6 * a) | hour << 6 * a;
            }
        }
        is("check " + hours, x.check(hours), y.check(hours));
    }

    private void askAll() {
        for (int a = -1; a <= y.size(); a++) {
            for (int what = -1; what <= 12; what++) {
                is("about " + a + " " + what, x.about(a, what), y.about(a, what));
            }
        }
        for (int k = -1; k <= 11; k++) {
            is("ring " + k, x.ring(k), y.ring(k));
            is("idle " + k, x.idle(k), y.idle(k));
            is("rest " + k, x.rest(k), y.rest(k));
            is("count " + k, x.count(k), y.count(k));
            is("day " + k + " 0", x.day(k, 0), y.day(k, 0));
            is("day " + k + " 1", x.day(k, 1), y.day(k, 1));
        }
        for (int h = 0; h <= 61; h++) {
            is("code " + h, x.code(h), y.code(h));
        }
        is("least", x.least(), y.least());
        is("pairs", x.pairs(), y.pairs());
        is("kept", x.kept(), y.kept());
    }
}
