/** A method for each promise: ordinary inputs, the edges that the document names, wrong inputs. */
public final class PromisesTest {
    private static final int NULL = -11, INDEX = -12, SIZE = -13, STORE = -14, JOB = -15;
    private static final int BAD = TwoBenches.BAD, FULL = TwoBenches.FULL, NONE = TwoBenches.NONE;
    private static final int RING = TwoBenches.RING;
    private static final int MIN = Integer.MIN_VALUE, MAX = Integer.MAX_VALUE;

    private static final Due due = new Due();

    public static void main(String[] args) {
        aNewObject();
        sheet();
        put();
        copy();
        told();
        job();
        after();
        read();
        readIsAllOrNone();
        free();
        ring();
        ringTakesTheShortestAndLeastWay();
        about();
        aboutOrder();
        undo();
        undoKeepsTwenty();
        least();
        day();
        labels();
        idle();
        pairs();
        rest();
        kept();
        code();
        check();
        checkEdges();
        count();
        due.end();
    }

    private static TwoBenches withJobs(int n) {
        TwoBenches x = new TwoBenches();
        for (int a = 0; a < n; a++) {
            x.job(0, 0, 0);
        }
        return x;
    }

    private static TwoBenches withSheet(int kind, int... values) {
        TwoBenches x = new TwoBenches();
        fill(x, 0, kind, values);
        return x;
    }

    private static void fill(TwoBenches x, int r, int kind, int... values) {
        x.sheet(r, kind, values.length);
        for (int i = 0; i < values.length; i++) {
            x.put(r, i, values[i]);
        }
    }

    private static void rowIs(String what, TwoBenches x, int r, long... values) {
        for (int i = 0; i < values.length; i++) {
            due.is(what + " place " + i, x.told(r, i), values[i]);
        }
        due.is(what + " beyond", x.told(r, values.length), 10000000012L);
    }

    private static void ringIs(String what, TwoBenches x, int... jobs) {
        for (int k = 0; k < jobs.length; k++) {
            due.is(what + " ring " + k, x.ring(k), jobs[k]);
        }
        due.is(what + " ring behind", x.ring(jobs.length), NONE);
        due.is(what + " ring far behind", x.ring(MAX), NONE);
    }

    private static void codesAre(String what, TwoBenches x, int... codes) {
        due.is(what + " kept", x.kept(), codes.length);
        for (int h = 1; h <= codes.length; h++) {
            due.is(what + " code " + h, x.code(h), codes[h - 1]);
        }
        due.is(what + " code behind", x.code(codes.length + 1), NONE);
    }

    private static void aNewObject() {
        TwoBenches x = new TwoBenches();
        for (int r = 0; r <= 5; r++) {
            due.is("new: told", x.told(r, 0), 10000000011L);
        }
        for (int what = 0; what <= 4; what++) {
            due.is("new: count", x.count(what), 0);
        }
        due.is("new: least", x.least(), 0);
        due.is("new: kept", x.kept(), 0);
        due.is("new: pairs", x.pairs(), 0);
        due.is("new: undo", x.undo(), NONE);
        due.is("new: ring", x.ring(0), NONE);
        due.is("new: check", x.check(-1L), 2);
    }

    private static void sheet() {
        TwoBenches x = new TwoBenches();
        due.is("sheet bytes", x.sheet(0, 0, 2), 0);
        due.is("sheet shorts", x.sheet(5, 1, 16), 0);
        due.is("sheet ints", x.sheet(1, 2, 0), 0);
        rowIs("bytes", x, 0, 0, 0);
        rowIs("shorts", x, 5, new long[16]);
        rowIs("ints", x, 1);
        x.put(0, 1, 7);
        due.is("sheet again", x.sheet(0, 0, 3), 0);
        rowIs("again all 0", x, 0, 0, 0, 0);
        due.is("sheet shorter", x.sheet(0, 0, 1), 0);
        rowIs("shorter", x, 0, 0);
        due.is("sheet missing", x.sheet(0, -1, -5), 0);
        due.is("told missing", x.told(0, 0), 10000000011L);
        due.is("sheet missing, n 99", x.sheet(5, -1, 99), 0);
        due.is("told missing", x.told(5, 0), 10000000011L);
        due.is("sheet r -1", x.sheet(-1, 0, 1), BAD);
        due.is("sheet r 6", x.sheet(6, 0, 1), BAD);
        due.is("sheet r 6 missing", x.sheet(6, -1, 1), BAD);
        due.is("sheet kind -2", x.sheet(2, -2, 1), BAD);
        due.is("sheet kind 3", x.sheet(2, 3, 1), BAD);
        due.is("sheet kind 3, n -1", x.sheet(2, 3, -1), BAD);
        due.is("sheet n 17", x.sheet(2, 0, 17), BAD);
        due.is("sheet n most", x.sheet(2, 0, MAX), BAD);
        due.is("sheet n -1", x.sheet(2, 0, -1), SIZE);
        due.is("sheet n least", x.sheet(2, 2, MIN), SIZE);
        due.is("refused sheet", x.told(2, 0), 10000000011L);
        fill(x, 3, 1, 4, 5);
        due.is("sheet refused", x.sheet(3, 1, -1), SIZE);
        due.is("sheet refused", x.sheet(3, 1, 17), BAD);
        rowIs("refused: as it was", x, 3, 4, 5);
    }

    private static void put() {
        TwoBenches x = new TwoBenches();
        fill(x, 0, 0, 127, 128, -129, 256);
        rowIs("bytes cut", x, 0, 127, -128, 127, 0);
        fill(x, 1, 1, 32767, 32768, -32769, 65536);
        rowIs("shorts cut", x, 1, 32767, -32768, 32767, 0);
        fill(x, 2, 2, MAX, MIN, 65536);
        rowIs("ints", x, 2, MAX, MIN, 65536);
        due.is("put", x.put(2, 1, 5), 0);
        rowIs("put again", x, 2, MAX, 5, 65536);
        due.is("put r -1", x.put(-1, 0, 0), BAD);
        due.is("put r 6", x.put(6, -1, 0), BAD);
        due.is("put missing", x.put(3, -1, 0), NULL);
        due.is("put i -1", x.put(0, -1, 0), INDEX);
        due.is("put i 4", x.put(0, 4, 0), INDEX);
        due.is("put i most", x.put(0, MAX, 0), INDEX);
        due.is("put i least", x.put(0, MIN, 0), INDEX);
        x.sheet(4, 2, 0);
        due.is("put no places", x.put(4, 0, 0), INDEX);
    }

    private static void copy() {
        TwoBenches x = withSheet(0, 1, 2, 3, 4, 5);
        fill(x, 1, 0, 9, 9, 9);
        due.is("copy", x.copy(0, 1, 1, 0, 2), 0);
        rowIs("copied", x, 1, 2, 3, 9);
        due.is("copy over itself, up", x.copy(0, 0, 0, 1, 4), 0);
        rowIs("up", x, 0, 1, 1, 2, 3, 4);
        due.is("copy over itself, down", x.copy(0, 1, 0, 0, 4), 0);
        rowIs("down", x, 0, 1, 2, 3, 4, 4);
        due.is("copy none at the end", x.copy(0, 5, 1, 3, 0), 0);
        due.is("copy none beyond", x.copy(0, 6, 1, 3, 0), INDEX);
        due.is("copy none beyond", x.copy(0, 5, 1, 4, 0), INDEX);
        due.is("copy n -1", x.copy(0, 1, 1, 1, -1), INDEX);
        due.is("copy i -1", x.copy(0, -1, 1, 0, 1), INDEX);
        due.is("copy j -1", x.copy(0, 0, 1, -1, 1), INDEX);
        due.is("copy from beyond", x.copy(0, 4, 1, 0, 2), INDEX);
        due.is("copy to beyond", x.copy(0, 0, 1, 2, 2), INDEX);
        due.is("copy n most", x.copy(0, 1, 1, 1, MAX), INDEX);
        due.is("copy i most", x.copy(0, MAX, 1, MAX, MAX), INDEX);
        due.is("copy n least", x.copy(0, 0, 1, 0, MIN), INDEX);
        fill(x, 2, 1, 7, 7);
        due.is("copy unlike", x.copy(0, 0, 2, 0, 1), STORE);
        due.is("copy unlike, none", x.copy(0, 0, 2, 0, 0), STORE);
        due.is("copy unlike, n -1", x.copy(2, 0, 0, 0, -1), STORE);
        due.is("copy to missing", x.copy(0, 0, 3, 0, -1), NULL);
        due.is("copy from missing", x.copy(3, 0, 0, 0, 1), NULL);
        due.is("copy r 6", x.copy(6, 0, 3, 0, 1), BAD);
        due.is("copy t -1", x.copy(3, 0, -1, 0, 1), BAD);
        rowIs("refused: as it was", x, 1, 2, 3, 9);
        rowIs("refused: as it was", x, 2, 7, 7);
    }

    private static void told() {
        TwoBenches x = withSheet(2, -1, MIN);
        due.is("told", x.told(0, 0), -1);
        due.is("told", x.told(0, 1), MIN);
        due.is("told i 2", x.told(0, 2), 10000000012L);
        due.is("told i -1", x.told(0, -1), 10000000012L);
        due.is("told i most", x.told(0, MAX), 10000000012L);
        due.is("told missing", x.told(1, -1), 10000000011L);
        due.is("told r -1", x.told(-1, 0), 10000000001L);
        due.is("told r 6", x.told(6, 0), 10000000001L);
    }

    private static void job() {
        TwoBenches x = new TwoBenches();
        due.is("job kind -1", x.job(-1, 1, 1), BAD);
        due.is("job kind 4", x.job(4, 1, 1), BAD);
        due.is("job END 0", x.job(1, 0, 1), BAD);
        due.is("job END 41", x.job(1, 41, 1), BAD);
        due.is("job BEGIN 0", x.job(2, 0, 5), BAD);
        due.is("job LATE END 41", x.job(2, 1, 41), BAD);
        due.is("job BEGIN above END", x.job(2, 6, 5), BAD);
        due.is("job BEGIN 41", x.job(2, 41, 41), BAD);
        due.is("job BENCH -1", x.job(3, -1, 0), BAD);
        due.is("job BENCH 2", x.job(3, 2, 0), BAD);
        due.is("none came", x.count(0), 0);
        due.is("none to undo", x.count(2), 0);
        due.is("job", x.job(0, MIN, MAX), 0);
        due.is("job EARLY", x.job(1, 40, MIN), 1);
        due.is("job EARLY", x.job(1, 1, 99), 2);
        due.is("job LATE", x.job(2, 40, 40), 3);
        due.is("job LATE", x.job(2, 1, 1), 4);
        due.is("job OWNED", x.job(3, 1, 99), 5);
        due.is("job OWNED", x.job(3, 0, -99), 6);
        x.job(0, 0, 0);
        x.job(0, 0, 0);
        due.is("tenth", x.job(0, 0, 0), 9);
        due.is("job full", x.job(0, 0, 0), FULL);
        due.is("job full, bad", x.job(3, 2, 0), BAD);
        due.is("ten came", x.count(0), 10);
        due.is("ten to undo", x.count(2), 10);
    }

    private static void after() {
        TwoBenches x = withJobs(4);
        due.is("after", x.after(1, 0), 1);
        due.is("after again", x.after(1, 0), 0);
        due.is("after", x.after(2, 1), 1);
        due.is("after what it is BEHIND", x.after(2, 0), 1);
        due.is("ring of two", x.after(0, 1), RING);
        due.is("ring over one", x.after(0, 2), RING);
        due.is("ring of one", x.after(3, 3), RING);
        due.is("after -1", x.after(-1, 0), BAD);
        due.is("after 4", x.after(0, 4), BAD);
        due.is("after 4 4", x.after(4, 4), BAD);
        due.is("after most", x.after(MAX, MIN), BAD);
        due.is("waits", x.count(1), 3);
        due.is("changes", x.count(2), 7);
        x.free(1, 0);
        x.free(2, 0);
        due.is("no ring any more", x.after(0, 1), 1);
    }

    private static void read() {
        TwoBenches x = withJobs(4);
        fill(x, 0, 0, 1, 2, 1, 4, 0, -1);
        due.is("read", x.read(0, 0, 0, 3), 2);
        due.is("read again", x.read(0, 0, 0, 3), 0);
        due.is("waits", x.about(0, 4), 6);
        due.is("one change", x.count(2), 5);
        due.is("read one more", x.read(3, 0, 4, 1), 1);
        due.is("read none", x.read(3, 0, 0, 0), 0);
        due.is("read none at the end", x.read(3, 0, 6, 0), 0);
        due.is("read none beyond", x.read(3, 0, 7, 0), INDEX);
        due.is("read no job 4", x.read(3, 0, 3, 1), JOB);
        due.is("read no job -1", x.read(3, 0, 5, 1), JOB);
        due.is("read i -1", x.read(3, 0, -1, 1), INDEX);
        due.is("read beyond", x.read(3, 0, 5, 2), INDEX);
        due.is("read beyond, no job ahead", x.read(3, 0, 3, 4), INDEX);
        due.is("read far beyond", x.read(3, 0, MAX, MAX), INDEX);
        due.is("read n -1", x.read(3, 0, -1, -1), SIZE);
        due.is("read n least", x.read(3, 0, 0, MIN), SIZE);
        due.is("read missing", x.read(3, 1, 0, -1), NULL);
        due.is("read r 6", x.read(3, 6, 0, 1), BAD);
        due.is("read r -1", x.read(3, -1, 0, 1), BAD);
        due.is("read a 4", x.read(4, 1, 0, 1), BAD);
        due.is("read a -1", x.read(-1, 1, 0, 1), BAD);
        due.is("read itself", x.read(1, 0, 0, 1), RING);
        due.is("read a ring", x.read(1, 0, 4, 1), RING);
        fill(x, 2, 2, 256, 2);
        due.is("read ints are not cut", x.read(1, 2, 0, 1), JOB);
    }

    private static void readIsAllOrNone() {
        TwoBenches x = withJobs(5);
        x.after(0, 1);
        fill(x, 0, 1, 2, 3, 0, 99);
        due.is("ring ahead of no job", x.read(1, 0, 0, 4), RING);
        fill(x, 0, 1, 2, 99, 0);
        due.is("no job ahead of ring", x.read(1, 0, 0, 3), JOB);
        due.is("it waits for none", x.about(1, 4), 0);
        due.is("changes", x.count(2), 6);
        fill(x, 0, 1, 4, 2, 4, 3);
        due.is("read", x.read(1, 0, 0, 4), 3);
        due.is("it waits for all", x.about(1, 4), 28);
        due.is("undo", x.undo(), 1);
        due.is("all are gone", x.about(1, 4), 0);
    }

    private static void free() {
        TwoBenches x = withJobs(3);
        x.after(2, 1);
        x.after(1, 0);
        due.is("free what it is only BEHIND", x.free(2, 0), 0);
        due.is("free the other way", x.free(1, 2), 0);
        due.is("free of itself", x.free(1, 1), 0);
        due.is("free", x.free(2, 1), 1);
        due.is("free again", x.free(2, 1), 0);
        due.is("BEHIND none", x.about(2, 5), 0);
        due.is("changes", x.count(2), 6);
        due.is("waits", x.count(1), 1);
        due.is("free 3", x.free(3, 0), BAD);
        due.is("free -1", x.free(0, -1), BAD);
        due.is("free most", x.free(0, MAX), BAD);
    }

    private static void ring() {
        TwoBenches x = withJobs(5);
        due.is("ring -1", x.ring(-1), BAD);
        due.is("ring least", x.ring(MIN), BAD);
        ringIs("before any", x);
        x.after(1, 0);
        ringIs("before any refused", x);
        x.after(0, 1);
        ringIs("of two", x, 0, 1);
        x.after(2, 1);
        ringIs("stays when a wait is taken", x, 0, 1);
        x.after(0, 9);
        ringIs("stays when a wait is bad", x, 0, 1);
        x.after(0, 2);
        ringIs("of three", x, 0, 2, 1);
        x.undo();
        x.undo();
        x.undo();
        ringIs("stays when JOBS go", x, 0, 2, 1);
        x.after(0, 0);
        ringIs("of one", x, 0);
        x = withJobs(4);
        x.after(0, 3);
        fill(x, 0, 2, 1, 2, 0);
        due.is("read", x.read(3, 0, 0, 3), RING);
        ringIs("of read", x, 3, 0);
        fill(x, 0, 2, 1, 3, 0);
        due.is("read itself", x.read(3, 0, 0, 3), RING);
        ringIs("of read, itself", x, 3);
    }

    private static void ringTakesTheShortestAndLeastWay() {
        TwoBenches x = withJobs(10);
        x.after(9, 8);
        x.after(8, 7);
        x.after(7, 0);
        x.after(9, 6);
        x.after(6, 0);
        x.after(9, 5);
        x.after(5, 0);
        due.is("after", x.after(0, 9), RING);
        ringIs("the lesser of the shortest", x, 0, 9, 5);
        x.free(5, 0);
        x.free(6, 0);
        x.after(5, 4);
        x.after(4, 0);
        x.after(5, 3);
        x.after(3, 0);
        due.is("after", x.after(0, 9), RING);
        ringIs("the lesser at the first place", x, 0, 9, 5, 3);
        TwoBenches z = withJobs(6);
        z.after(5, 1);
        z.after(1, 2);
        z.after(2, 0);
        z.after(5, 4);
        z.after(4, 0);
        due.is("after", z.after(0, 5), RING);
        ringIs("the shortest, though of greater numbers", z, 0, 5, 4);
        TwoBenches y = withJobs(10);
        for (int a = 1; a < 10; a++) {
            y.after(a, a - 1);
        }
        due.is("after", y.after(0, 9), RING);
        ringIs("the longest", y, 0, 9, 8, 7, 6, 5, 4, 3, 2, 1);
    }

    private static void about() {
        TwoBenches x = new TwoBenches();
        x.job(0, 7, 8);
        x.job(1, 40, 8);
        x.job(2, 3, 8);
        x.job(3, 1, 8);
        int[][] want = {{0, NONE, NONE, NONE}, {1, NONE, 40, NONE}, {2, 3, 8, NONE}, {3, NONE, NONE, 1}};
        for (int a = 0; a < 4; a++) {
            for (int what = 0; what < 4; what++) {
                due.is("about " + a + " " + what, x.about(a, what), want[a][what]);
            }
        }
        due.is("about a -1", x.about(-1, 0), -9);
        due.is("about a 4", x.about(4, 0), -9);
        due.is("about what -1", x.about(0, -1), -9);
        due.is("about what 12", x.about(0, 12), -9);
        due.is("about most", x.about(MAX, MIN), -9);
    }

    private static void aboutOrder() {
        TwoBenches x = withJobs(5);
        x.after(1, 0);
        x.after(2, 1);
        x.after(2, 0);
        x.after(3, 0);
        due.is("waits", x.about(2, 4), 3);
        due.is("behind", x.about(2, 5), 3);
        due.is("behind it", x.about(0, 6), 14);
        due.is("next, not over another", x.about(0, 7), 10);
        due.is("next", x.about(1, 7), 4);
        due.is("next of none", x.about(4, 7), 0);
        int[] depths = {3, 2, 1, 1, 1};
        int[] labels = {5, 4, 1, 2, 3};
        int[] hours = {1, 2, 3, 2, 1};
        int[] keptHours = {1, 2, 3, 2, 1};
        for (int a = 0; a < 5; a++) {
            due.is("depth " + a, x.about(a, 8), depths[a]);
            due.is("label " + a, x.about(a, 9), labels[a]);
            due.is("hour " + a, x.about(a, 10), hours[a]);
            due.is("kept hour " + a, x.about(a, 11), keptHours[a]);
        }
        x.job(1, 1, 0);
        x.after(5, 2);
        due.is("no kept day", x.about(0, 11), NONE);
        due.is("a day, though", x.about(5, 10), 4);
    }

    private static void undo() {
        TwoBenches x = new TwoBenches();
        due.is("undo nothing", x.undo(), NONE);
        x.job(1, 3, 0);
        x.job(0, 0, 0);
        x.after(0, 1);
        x.free(0, 1);
        x.after(0, 1);
        x.after(0, 1);
        x.after(1, 0);
        x.free(1, 0);
        x.job(9, 0, 0);
        x.sheet(0, 0, 1);
        due.is("changes", x.count(2), 5);
        due.is("undo after", x.undo(), 1);
        due.is("it waits for none", x.about(0, 4), 0);
        due.is("undo free", x.undo(), 1);
        due.is("it waits", x.about(0, 4), 2);
        due.is("undo after", x.undo(), 1);
        due.is("it waits for none", x.about(0, 4), 0);
        due.is("undo job", x.undo(), 1);
        due.is("one job", x.count(0), 1);
        due.is("a job of another kind", x.job(3, 0, 0), 1);
        due.is("its kind", x.about(1, 0), 3);
        due.is("its end", x.about(1, 2), NONE);
        due.is("waits for none", x.about(1, 4), 0);
        due.is("undo", x.undo(), 1);
        due.is("undo", x.undo(), 1);
        due.is("undo nothing", x.undo(), NONE);
        due.is("no job", x.about(0, 0), -9);
        due.is("sheets stay", x.told(0, 0), 0);
    }

    private static void undoKeepsTwenty() {
        TwoBenches x = withJobs(2);
        for (int k = 0; k < 10; k++) {
            x.after(1, 0);
            x.free(1, 0);
        }
        due.is("changes", x.count(2), 20);
        x.after(0, 1);
        due.is("changes", x.count(2), 20);
        due.is("undo the latest", x.undo(), 1);
        due.is("waits", x.count(1), 0);
        for (int k = 0; k < 19; k++) {
            due.is("undo", x.undo(), 1);
        }
        due.is("the first of them is lost", x.about(1, 4), 1);
        due.is("no more", x.undo(), NONE);
        due.is("jobs stay", x.count(0), 2);
    }

    private static void least() {
        TwoBenches x = withJobs(5);
        due.is("least", x.least(), 3);
        for (int a = 1; a < 5; a++) {
            x.after(a, a - 1);
        }
        due.is("least of a row", x.least(), 5);
        TwoBenches y = new TwoBenches();
        y.job(2, 9, 9);
        y.job(1, 1, 0);
        y.job(3, 0, 0);
        y.job(3, 0, 0);
        due.is("kinds are not looked at", y.least(), 2);
        x.undo();
        due.is("least after undo", x.least(), 4);
    }

    private static void day() {
        TwoBenches x = withJobs(3);
        due.is("day 1 0", x.day(1, 0), 2);
        due.is("day 1 1", x.day(1, 1), 1);
        due.is("day 2 0", x.day(2, 0), 0);
        due.is("day 2 1", x.day(2, 1), NONE);
        due.is("day 3 0", x.day(3, 0), NONE);
        due.is("day most", x.day(MAX, 1), NONE);
        due.is("day 0", x.day(0, 0), BAD);
        due.is("day least", x.day(MIN, 0), BAD);
        due.is("day i -1", x.day(1, -1), BAD);
        due.is("day i 2", x.day(1, 2), BAD);
        due.is("day i 2 behind", x.day(99, 2), BAD);
    }

    private static void labels() {
        // NEXTS: 3 has {0}, 4 has {0, 1}, 5 has {2}, 6 has {1}; rows 1, 21, 3, 2.
        TwoBenches x = withJobs(7);
        x.after(0, 3);
        x.after(0, 4);
        x.after(1, 4);
        x.after(2, 5);
        x.after(1, 6);
        int[] labels = {1, 2, 3, 4, 6, 7, 5};
        for (int a = 0; a < 7; a++) {
            due.is("label " + a, x.about(a, 9), labels[a]);
        }
        // A wait that is told, but no STEP, adds nothing to a row: 3 is behind 0 over 2 alone.
        TwoBenches y = withJobs(4);
        y.after(3, 2);
        y.after(2, 0);
        y.after(2, 1);
        y.after(3, 0);
        int[] without = {3, 4, 2, 1};
        for (int a = 0; a < 4; a++) {
            due.is("label " + a + " by STEPS", y.about(a, 9), without[a]);
        }
    }

    private static void idle() {
        TwoBenches x = withJobs(4);
        due.is("none idle", x.idle(0), NONE);
        x.after(1, 0);
        x.after(2, 1);
        due.is("idle 0", x.idle(0), 2);
        due.is("idle 1", x.idle(1), 3);
        due.is("idle 2", x.idle(2), NONE);
        due.is("idle most", x.idle(MAX), NONE);
        due.is("idle -1", x.idle(-1), BAD);
        due.is("idle least", x.idle(MIN), BAD);
    }

    private static void pairs() {
        TwoBenches x = withJobs(7);
        due.is("pairs of seven", x.pairs(), 3);
        for (int a = 1; a < 7; a++) {
            x.after(a, 0);
        }
        due.is("the first has no mate", x.pairs(), 3);
        x.after(1, 2);
        for (int a = 3; a < 7; a++) {
            x.after(a, 1);
        }
        due.is("three have none", x.pairs(), 2);
    }

    private static void rest() {
        TwoBenches x = withJobs(5);
        x.after(1, 0);
        x.after(2, 1);
        x.after(3, 2);
        for (int h = 0; h <= 5; h++) {
            due.is("rest " + h, x.rest(h), Math.max(0, 4 - h));
        }
        due.is("rest most", x.rest(MAX), 0);
        due.is("rest -1", x.rest(-1), BAD);
        due.is("rest least", x.rest(MIN), BAD);
    }

    private static void kept() {
        TwoBenches x = new TwoBenches();
        x.job(2, 40, 40);
        due.is("late", x.kept(), 40);
        x.job(0, 0, 0);
        x.after(1, 0);
        due.is("behind a late one", x.kept(), 41);
        for (int a = 2; a < 10; a++) {
            x.job(0, 0, 0);
            x.after(a, a - 1);
        }
        due.is("the longest", x.kept(), 49);
        TwoBenches y = new TwoBenches();
        y.job(1, 1, 0);
        y.job(0, 0, 0);
        y.after(0, 1);
        due.is("no time for what is ahead", y.kept(), NONE);
        y.undo();
        due.is("undone", y.kept(), 1);
        TwoBenches z = new TwoBenches();
        z.job(3, 1, 0);
        z.job(3, 1, 0);
        due.is("one bench", z.kept(), 2);
        z.job(3, 0, 0);
        z.job(3, 0, 0);
        due.is("two benches", z.kept(), 2);
    }

    private static void code() {
        TwoBenches x = withJobs(2);
        codesAre("a pair", x, 1);
        x.after(0, 1);
        codesAre("one behind the other", x, 21, 10);
        due.is("code 0", x.code(0), BAD);
        due.is("code -1", x.code(-1), BAD);
        due.is("code most", x.code(MAX), NONE);
        // To come alone is a greater CODE than with a mate, a greater first JOB is greater still.
        TwoBenches y = withJobs(3);
        codesAre("three", y, 1, 32);
        TwoBenches z = new TwoBenches();
        z.job(0, 0, 0);
        z.job(2, 3, 3);
        codesAre("sooner rather than with a mate", z, 10, 120, 21);
        z.job(0, 0, 0);
        z.after(2, 0);
        z.after(2, 1);
        codesAre("behind a late one", z, 10, 120, 21, 32);
        TwoBenches w = new TwoBenches();
        w.job(0, 0, 0);
        w.job(0, 0, 0);
        w.job(1, 1, 0);
        codesAre("an early one draws the first along", w, 2, 21);
        w.job(1, 1, 0);
        codesAre("two early ones", w, 25, 1);
        w.job(1, 1, 0);
        due.is("three early ones", w.kept(), NONE);
        due.is("no code", w.code(1), NONE);
        due.is("no code, bad", w.code(0), BAD);
    }

    private static long hours(int... hours) {
        long all = 0;
        for (int a = 0; a < hours.length; a++) {
            all |= (long) hours[a] << 6 * a;
        }
        return all;
    }

    private static void check() {
        TwoBenches x = new TwoBenches();
        x.job(1, 3, 0);
        x.job(2, 2, 4);
        x.job(3, 1, 0);
        x.job(3, 1, 0);
        x.job(3, 0, 0);
        due.is("kept", x.check(hours(3, 2, 1, 2, 1)), 2);
        due.is("above END", x.check(hours(4, 2, 1, 2, 1)), 1);
        due.is("below BEGIN", x.check(hours(3, 1, 1, 2, 2)), 1);
        due.is("LATE above END", x.check(hours(3, 5, 1, 2, 1)), 1);
        due.is("at its END", x.check(hours(3, 4, 1, 2, 1)), 2);
        due.is("one bench twice", x.check(hours(3, 4, 2, 2, 1)), 1);
        due.is("three in one hour", x.check(hours(1, 2, 1, 3, 1)), 0);
        due.is("one without", x.check(hours(3, 2, 0, 2, 1)), 0);
        due.is("the last without", x.check(hours(3, 2, 1, 2, 0)), 0);
        due.is("what stands above", x.check(hours(3, 2, 1, 2, 1) | -1L << 30), 2);
        x.after(0, 1);
        due.is("behind", x.check(hours(3, 2, 1, 2, 1)), 2);
        due.is("the same hour", x.check(hours(2, 2, 1, 3, 1)), 0);
        due.is("not behind", x.check(hours(1, 2, 1, 2, 3)), 0);
        x.after(1, 2);
        due.is("behind over one", x.check(hours(3, 2, 1, 2, 1)), 2);
        due.is("not behind over one", x.check(hours(1, 2, 3, 4, 4)), 0);
    }

    private static void checkEdges() {
        TwoBenches x = withJobs(1);
        due.is("none", x.check(0L), 0);
        due.is("none, what stands above", x.check(64L), 0);
        due.is("the last hour", x.check(63L), 2);
        due.is("all bits", x.check(-1L), 2);
        x.job(0, 0, 0);
        due.is("all bits, two", x.check(-1L), 2);
        x.job(0, 0, 0);
        due.is("all bits, three", x.check(-1L), 0);
        TwoBenches y = withJobs(10);
        long pairs = hours(1, 1, 2, 2, 3, 3, 4, 4, 63, 63);
        due.is("ten", y.check(pairs), 2);
        due.is("ten, what stands above", y.check(pairs | 15L << 60), 2);
        due.is("ten, the last without", y.check(pairs & ~(63L << 54)), 0);
        due.is("least", y.check(Long.MIN_VALUE), 0);
    }

    private static void count() {
        TwoBenches x = withJobs(4);
        x.after(1, 0);
        x.after(2, 1);
        x.after(2, 0);
        due.is("jobs", x.count(0), 4);
        due.is("waits", x.count(1), 3);
        due.is("changes", x.count(2), 7);
        due.is("idle", x.count(3), 2);
        due.is("depth", x.count(4), 3);
        x.free(2, 1);
        due.is("waits", x.count(1), 2);
        due.is("changes", x.count(2), 8);
        due.is("idle", x.count(3), 0);
        due.is("depth", x.count(4), 2);
        due.is("count -1", x.count(-1), BAD);
        due.is("count 5", x.count(5), BAD);
        due.is("count most", x.count(MAX), BAD);
    }
}
