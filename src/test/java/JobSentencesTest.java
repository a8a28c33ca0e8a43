/** Promises 6 to 12 and the terms of JOBS: a method for each sentence that names a boundary case. */
public final class JobSentencesTest {
    private static final int NULL = Run.NULL, INDEX = Run.INDEX, SIZE = Run.SIZE, JOB = Run.JOB;
    private static final int BAD = Run.BAD, FULL = Run.FULL, NONE = Run.NONE, MIN = Run.MIN, MAX = Run.MAX;
    private static final int[] NO_JOBS_OF_THREE = {-1, 3, 10, 31, 32, 33, MIN, MAX};

    public static void main(String[] args) {
        Sentences s = new Sentences();
        job(s);
        after(s);
        read(s);
        readRefusals(s);
        free(s);
        ring(s);
        about(s);
        undo(s);
        s.end();
    }

    private static void job(Sentences s) {
        s.test("6: JOBS 0, 1, .. as they come", JobSentencesTest::numbersAsTheyCome);
        s.test("6: FULL: 10 at most", JobSentencesTest::tenAtMost);
        s.test("6: BAD comes ahead of FULL", JobSentencesTest::jobOrder);
        s.test("6: FULL no more, when one is undone", JobSentencesTest::fullNoMore);
        s.test("6: BAD: the KIND", JobSentencesTest::kinds);
        s.test("6: BAD: of EARLY the END a (1 to 40)", JobSentencesTest::earlyEnds);
        s.test("6: BAD: of LATE the BEGIN a (1 to 40)", JobSentencesTest::lateBegins);
        s.test("6: BAD: of LATE the END b (1 to 40)", JobSentencesTest::lateEnds);
        s.test("6: BAD: of LATE a above b", JobSentencesTest::beginAboveEnd);
        s.test("6: BAD: of OWNED the BENCH a (0, 1)", JobSentencesTest::benches);
        s.test("6: what a KIND does not have is not looked at", JobSentencesTest::notLookedAt);
    }

    private static void after(Sentences s) {
        s.test("7: 1; 0: it did", JobSentencesTest::afterAgain);
        s.test("7: 1, though it was BEHIND it before", JobSentencesTest::afterWhatItIsBehind);
        s.test("7: BAD", JobSentencesTest::afterBad);
        s.test("7: RING: a JOB and itself", JobSentencesTest::ringOfOne);
        s.test("7: RING: of two JOBS", JobSentencesTest::ringOfTwo);
        s.test("7: RING: of ten JOBS", JobSentencesTest::ringOfTen);
        s.test("7: RING: none, when a wait of it was freed", JobSentencesTest::noRingWhenFreed);
        s.test("7: RING: none, when two ways lead the same way round", JobSentencesTest::noRingOfTwoWays);
    }

    private static void read(Sentences s) {
        s.test("8: those that n places from i on tell, no other", JobSentencesTest::readJustThese);
        s.test("8: how many it did not WAIT FOR ahead", JobSentencesTest::readSomeMore);
        s.test("8: how many: one told twice is one", JobSentencesTest::readTwice);
        s.test("8: how many: none, of no places or of none that are new", JobSentencesTest::readNone);
        s.test("8: SHEETS of all sorts, of 16 places", JobSentencesTest::readSorts);
    }

    private static void readRefusals(Sentences s) {
        s.test("8: BAD", JobSentencesTest::readBad);
        s.test("8: NULL", JobSentencesTest::readNull);
        s.test("8: SIZE: n", JobSentencesTest::readSize);
        s.test("8: INDEX", JobSentencesTest::readIndex);
        s.test("8: INDEX: where i + n wraps around", JobSentencesTest::readWraps);
        s.test("8: JOB", JobSentencesTest::readNoJob);
        s.test("8: RING", JobSentencesTest::readRing);
        s.test("8: of several the first", JobSentencesTest::readOrder);
        s.test("8: then, place by place, JOB, RING", JobSentencesTest::readPlaceByPlace);
        s.test("8: All, or none", JobSentencesTest::readAllOrNone);
    }

    private static void free(Sentences s) {
        s.test("9: 1; 0: it did not", JobSentencesTest::freeAgain);
        s.test("9: 0: it is only BEHIND it", JobSentencesTest::freeWhatItIsBehind);
        s.test("9: 0: the other one WAITS FOR it, or it is itself", JobSentencesTest::freeTheOtherWay);
        s.test("9: one wait, no other", JobSentencesTest::freeOneWait);
        s.test("9: BAD", JobSentencesTest::freeBad);
    }

    private static void ring(Sentences s) {
        s.test("10: (Before any: NONE.)", JobSentencesTest::ringBeforeAny);
        s.test("10: BAD: k below 0", JobSentencesTest::ringBad);
        s.test("10: a JOB that was to wait for itself alone", JobSentencesTest::ringAlone);
        s.test("10: NONE behind", JobSentencesTest::ringBehind);
        s.test("10: of several ways the one with the fewest", JobSentencesTest::ringFewest);
        s.test("10: of these the lesser number at the first place where they differ", JobSentencesTest::ringLesser);
        s.test("10: each WAITING FOR the one behind it, among others", JobSentencesTest::ringAmongOthers);
        s.test("10: over the one that it was to wait for", JobSentencesTest::ringOverTheOther);
        s.test("10: the latest that was refused for one", JobSentencesTest::ringLatest);
        s.test("10: it stays, whatever else comes", JobSentencesTest::ringStays);
        s.test("10: of read()", JobSentencesTest::ringOfRead);
        s.test("10: In read() those ahead of it count as told", JobSentencesTest::ringOfReadWithThoseAhead);
    }

    private static void about(Sentences s) {
        s.test("11: 0 KIND", JobSentencesTest::aboutKind);
        s.test("11: 1 BEGIN (NONE, if it has none)", JobSentencesTest::aboutBegin);
        s.test("11: 2 END (NONE, if it has none)", JobSentencesTest::aboutEnd);
        s.test("11: 3 BENCH (NONE, if it has none)", JobSentencesTest::aboutBench);
        s.test("11: 4 JOBS that it WAITS FOR", JobSentencesTest::aboutWaits);
        s.test("11: 5 those that it is BEHIND", JobSentencesTest::aboutBehind);
        s.test("11: 6 those that are BEHIND it", JobSentencesTest::aboutFollowers);
        s.test("11: 7 those that are NEXT behind it", JobSentencesTest::aboutNexts);
        s.test("11: 8 DEPTH", JobSentencesTest::aboutDepth);
        s.test("11: 9 LABEL", JobSentencesTest::aboutLabel);
        s.test("11: 10 its HOUR in THE DAY by LABELS", JobSentencesTest::aboutHour);
        s.test("11: 11 its HOUR in THE KEPT DAY (NONE without one)", JobSentencesTest::aboutKeptHour);
        s.test("11: BAD answers -9", JobSentencesTest::aboutBad);
    }

    private static void undo(Sentences s) {
        s.test("12: NONE: there is none", JobSentencesTest::undoNothing);
        s.test("12: as they were ahead of job()", JobSentencesTest::undoJob);
        s.test("12: as they were ahead of after()", JobSentencesTest::undoAfter);
        s.test("12: as they were ahead of read()", JobSentencesTest::undoRead);
        s.test("12: as they were ahead of free()", JobSentencesTest::undoFree);
        s.test("12: that changed something", JobSentencesTest::undoPassesOverNoChanges);
        s.test("12: and was not undone", JobSentencesTest::undoGoesFurther);
        s.test("12: what comes then counts, not what was undone", JobSentencesTest::undoThenOther);
        s.test("12: 20 are kept", JobSentencesTest::undoTwenty);
        s.test("12: 20 are kept, of all sorts", JobSentencesTest::undoTwentyOfAllSorts);
        s.test("12: SHEETS are not JOBS", JobSentencesTest::undoLeavesSheets);
    }

    // ---- promise 6

    private static void numbersAsTheyCome(Run x) {
        for (int a = 0; a < 10; a++) {
            x.count(0).is(a);
            x.job(a % 4, 1, 1).is(a);
        }
        x.count(0).is(10);
        x.aboutIs(0, 0, 1, 2, 3, 0, 1, 2, 3, 0, 1);
    }

    private static void tenAtMost(Run x) {
        x.jobs(9).job(0, 0, 0).is(9);
        for (int kind = 0; kind <= 3; kind++) {
            x.job(kind, 1, 1).isRefused(FULL);
        }
        x.about(10, 0).is(-9);
    }

    private static void jobOrder(Run x) {
        x.jobs(10);
        x.job(-1, 1, 1).isRefused(BAD);
        x.job(4, 1, 1).isRefused(BAD);
        x.job(1, 0, 1).isRefused(BAD);
        x.job(2, 2, 1).isRefused(BAD);
        x.job(3, 2, 1).isRefused(BAD);
    }

    private static void fullNoMore(Run x) {
        x.jobs(10).job(0, 0, 0).is(FULL);
        x.undo().is(1);
        x.job(3, 1, 0).is(9);
        x.about(9, 3).is(1);
        x.job(0, 0, 0).isRefused(FULL);
    }

    private static void kinds(Run x) {
        for (int kind : new int[] {-1, 4, MIN, MAX}) {
            x.job(kind, 1, 1).isRefused(BAD);
        }
        for (int kind = 0; kind <= 3; kind++) {
            x.job(kind, 1, 1).is(kind);
        }
    }

    private static void earlyEnds(Run x) {
        for (int end : new int[] {0, 41, -1, MIN, MAX}) {
            x.job(1, end, 1).isRefused(BAD);
        }
        x.job(1, 1, 1).is(0);
        x.job(1, 40, 1).is(1);
        x.aboutIs(2, 1, 40);
    }

    private static void lateBegins(Run x) {
        for (int begin : new int[] {0, -1, MIN, 41, MAX}) {
            x.job(2, begin, 40).isRefused(BAD);
        }
        x.job(2, 41, 41).isRefused(BAD);
        x.job(2, 1, 40).is(0);
        x.job(2, 40, 40).is(1);
        x.aboutIs(1, 1, 40);
    }

    private static void lateEnds(Run x) {
        for (int end : new int[] {0, -1, MIN, 41, MAX}) {
            x.job(2, 1, end).isRefused(BAD);
        }
        x.job(2, 0, 0).isRefused(BAD);
        x.job(2, 1, 1).is(0);
        x.job(2, 1, 40).is(1);
        x.aboutIs(2, 1, 40);
    }

    private static void beginAboveEnd(Run x) {
        x.job(2, 6, 5).isRefused(BAD);
        x.job(2, 40, 1).isRefused(BAD);
        x.job(2, 2, 1).isRefused(BAD);
        x.job(2, 5, 5).is(0);
        x.job(2, 5, 6).is(1);
    }

    private static void benches(Run x) {
        for (int bench : new int[] {-1, 2, MIN, MAX}) {
            x.job(3, bench, 0).isRefused(BAD);
        }
        x.job(3, 0, 0).is(0);
        x.job(3, 1, 0).is(1);
        x.aboutIs(3, 0, 1);
    }

    private static void notLookedAt(Run x) {
        x.job(0, MIN, MAX).is(0);
        x.job(0, 41, -1).is(1);
        x.job(1, 40, MIN).is(2);
        x.job(1, 1, 41).is(3);
        x.job(1, 5, 4).is(4);
        x.job(3, 1, MIN).is(5);
        x.job(3, 0, 41).is(6);
    }

    // ---- promise 7

    private static void afterAgain(Run x) {
        x.jobs(10).after(9, 8).is(1);
        x.after(9, 8).changesNothing(0);
        x.after(0, 9).is(1);
        x.after(0, 9).changesNothing(0);
        x.about(0, 4).is(512);
        x.about(9, 4).is(256);
    }

    private static void afterWhatItIsBehind(Run x) {
        x.chain(3).after(2, 0).is(1);
        x.about(2, 4).is(3);
        x.after(2, 0).changesNothing(0);
    }

    private static void afterBad(Run x) {
        x.jobs(3);
        for (int a : NO_JOBS_OF_THREE) {
            x.after(a, 0).isRefused(BAD);
            x.after(0, a).isRefused(BAD);
            x.after(a, a).isRefused(BAD);
        }
        x.undo();
        x.after(2, 0).isRefused(BAD);
        x.after(0, 2).isRefused(BAD);
    }

    private static void ringOfOne(Run x) {
        x.jobs(10).after(0, 0).isRing(0);
        x.after(9, 9).isRing(9);
    }

    private static void ringOfTwo(Run x) {
        x.jobs(3).after(2, 1).is(1);
        x.after(1, 2).isRing(1, 2);
    }

    private static void ringOfTen(Run x) {
        x.chain(10).after(0, 9).isRing(0, 9, 8, 7, 6, 5, 4, 3, 2, 1);
        x.after(1, 9).isRing(1, 9, 8, 7, 6, 5, 4, 3, 2);
    }

    private static void noRingWhenFreed(Run x) {
        x.chain(4).after(0, 3).is(Run.RING);
        x.free(2, 1).is(1);
        x.after(0, 3).is(1);
        x.about(1, 5).is(13);
        x.undo();
        x.undo();
        x.after(0, 3).isRing(0, 3, 2, 1);
    }

    private static void noRingOfTwoWays(Run x) {
        x.jobs(4).after(1, 0).is(1);
        x.after(2, 0).is(1);
        x.after(3, 1).is(1);
        x.after(3, 2).is(1);
        x.after(3, 0).is(1);
        x.after(2, 1).is(1);
        x.after(1, 2).isRing(1, 2);
    }

    // ---- promise 8

    private static void readJustThese(Run x) {
        x.jobs(6).fill(0, 0, 1, 2, 3, 4);
        x.read(0, 0, 1, 2).is(2);
        x.about(0, 4).is(12);
        x.read(5, 0, 0, 4).is(4);
        x.about(5, 4).is(30);
        x.read(4, 0, 0, 1).is(1);
        x.about(4, 4).is(2);
        x.rowIs(0, 1, 2, 3, 4);
        x.count(2).is(9);
    }

    private static void readSomeMore(Run x) {
        x.jobs(5).fill(0, 0, 1, 2, 3, 4);
        x.after(0, 2);
        x.after(0, 4);
        x.read(0, 0, 0, 4).is(2);
        x.read(0, 0, 0, 4).changesNothing(0);
        x.about(0, 4).is(30);
    }

    private static void readTwice(Run x) {
        x.jobs(3).fill(0, 0, 1, 1, 2, 1);
        x.read(0, 0, 0, 4).is(2);
        x.count(1).is(2);
    }

    private static void readNone(Run x) {
        x.jobs(2).fill(0, 0, 1, 9).fill(1, 1);
        x.read(0, 0, 0, 0).changesNothing(0);
        x.read(0, 0, 2, 0).changesNothing(0);
        x.read(0, 1, 0, 0).changesNothing(0);
        x.after(0, 1);
        x.read(0, 0, 0, 1).changesNothing(0);
    }

    private static void readSorts(Run x) {
        x.jobs(10);
        for (int kind = 0; kind <= 2; kind++) {
            x.sheet(kind, kind, 16);
            for (int i = 0; i < 16; i++) {
                x.put(kind, i, 1 + (i + kind) % 8);
            }
            x.read(9 * (kind % 2), kind, 0, 16).is(kind == 2 ? 0 : 8);
        }
        x.aboutIs(4, 510, 0);
        x.about(9, 4).is(510);
    }

    private static void readBad(Run x) {
        x.jobs(3).fill(0, 0, 1).fill(5, 0, 1);
        for (int a : NO_JOBS_OF_THREE) {
            x.read(a, 0, 0, 1).isRefused(BAD);
        }
        for (int r : new int[] {-1, 6, MIN, MAX}) {
            x.read(0, r, 0, 1).isRefused(BAD);
        }
        x.read(2, 5, 0, 1).is(1);
    }

    private static void readNull(Run x) {
        x.jobs(2).read(0, 5, 0, 0).isRefused(NULL);
        x.fill(5, 0, 1).sheet(5, -1, 0);
        x.read(0, 5, 0, 1).isRefused(NULL);
    }

    private static void readSize(Run x) {
        x.jobs(2).fill(0, 0, 1).fill(1, 0);
        x.read(0, 0, 0, -1).isRefused(SIZE);
        x.read(0, 0, 1, -1).isRefused(SIZE);
        x.read(0, 0, 0, MIN).isRefused(SIZE);
        x.read(0, 1, 0, -1).isRefused(SIZE);
    }

    private static void readIndex(Run x) {
        x.jobs(2).fill(0, 0, 1, 1).fill(1, 0).sheet(2, 0, 16);
        x.read(0, 0, -1, 1).isRefused(INDEX);
        x.read(0, 0, -1, 0).isRefused(INDEX);
        x.read(0, 0, 2, 1).isRefused(INDEX);
        x.read(0, 0, 1, 2).isRefused(INDEX);
        x.read(0, 0, 0, 3).isRefused(INDEX);
        x.read(0, 0, 3, 0).isRefused(INDEX);
        x.read(0, 1, 0, 1).isRefused(INDEX);
        x.read(1, 2, 16, 1).isRefused(INDEX);
        x.read(1, 2, 0, 17).isRefused(INDEX);
    }

    private static void readWraps(Run x) {
        x.jobs(2).fill(0, 0, 1, 1);
        x.read(0, 0, 1, MAX).isRefused(INDEX);
        x.read(0, 0, MAX, 1).isRefused(INDEX);
        x.read(0, 0, MAX, MAX).isRefused(INDEX);
        x.read(0, 0, MIN, MAX).isRefused(INDEX);
        x.read(0, 0, MIN, 0).isRefused(INDEX);
    }

    private static void readNoJob(Run x) {
        x.jobs(3).fill(0, 2, NO_JOBS_OF_THREE).fill(1, 2, 256, 65536, 257);
        for (int i = 0; i < NO_JOBS_OF_THREE.length; i++) {
            x.read(0, 0, i, 1).isRefused(JOB);
        }
        for (int i = 0; i < 3; i++) {
            x.read(2, 1, i, 1).isRefused(JOB);
        }
        x.jobs(7).fill(0, 0, 10);
        x.read(0, 0, 0, 1).isRefused(JOB);
    }

    private static void readRing(Run x) {
        x.chain(4).fill(0, 0, 1, 3);
        x.read(1, 0, 0, 1).isRing(1);
        x.read(1, 0, 1, 1).isRing(1, 3, 2);
        x.read(0, 0, 1, 1).isRing(0, 3, 2, 1);
    }

    private static void readOrder(Run x) {
        x.jobs(2).fill(0, 0, 99);
        x.read(2, 5, 0, -1).isRefused(BAD);
        x.read(0, 6, 0, -1).isRefused(BAD);
        x.read(0, 5, -1, -1).isRefused(NULL);
        x.read(0, 0, -1, -1).isRefused(SIZE);
        x.read(0, 0, 9, -1).isRefused(SIZE);
        x.read(0, 0, 0, 2).isRefused(INDEX);
        x.fill(0, 0, 0);
        x.read(0, 0, 0, 2).isRefused(INDEX);
    }

    private static void readPlaceByPlace(Run x) {
        x.jobs(4).after(0, 1).is(1);
        x.fill(0, 0, 2, 0, 99, 1, 0);
        x.read(1, 0, 0, 5).isRing(1, 0);
        x.read(1, 0, 2, 3).isRefused(JOB);
        x.read(1, 0, 3, 2).isRing(1);
        x.read(3, 0, 0, 3).isRefused(JOB);
    }

    private static void readAllOrNone(Run x) {
        x.jobs(6).after(0, 5).is(1);
        x.after(5, 2).is(1);
        x.fill(0, 1, 1, 2, 3, 4, 99).fill(1, 1, 1, 2, 3, 4, 0).fill(2, 1, 1, 2, 3, 4, 5);
        x.read(5, 0, 0, 5).isRefused(JOB);
        x.read(5, 1, 0, 5).isRing(5, 0);
        x.read(5, 2, 0, 5).isRing(5);
        x.read(5, 2, 0, 4).is(3);
        x.about(5, 4).is(30);
        x.count(2).is(9);
    }

    // ---- promise 9

    private static void freeAgain(Run x) {
        x.jobs(10).after(9, 8).is(1);
        x.free(9, 8).is(1);
        x.free(9, 8).changesNothing(0);
        x.about(9, 4).is(0);
        x.about(9, 5).is(0);
        x.about(8, 6).is(0);
    }

    private static void freeWhatItIsBehind(Run x) {
        x.chain(3).free(2, 0).changesNothing(0);
        x.about(2, 5).is(3);
    }

    private static void freeTheOtherWay(Run x) {
        x.chain(3).free(0, 1).changesNothing(0);
        x.free(1, 1).changesNothing(0);
    }

    private static void freeOneWait(Run x) {
        x.chain(3).after(2, 0).is(1);
        x.free(2, 1).is(1);
        x.aboutIs(4, 0, 1, 1);
        x.aboutIs(5, 0, 1, 1);
    }

    private static void freeBad(Run x) {
        x.chain(3);
        for (int a : NO_JOBS_OF_THREE) {
            x.free(a, 0).isRefused(BAD);
            x.free(1, a).isRefused(BAD);
        }
        x.undo();
        x.undo();
        x.undo();
        x.free(2, 1).isRefused(BAD);
    }

    // ---- promise 10

    private static void ringBeforeAny(Run x) {
        x.ringIs();
        x.chain(3);
        x.after(0, 5).is(BAD);
        x.ringIs();
        x.ring(MAX).is(NONE);
    }

    private static void ringBad(Run x) {
        x.ring(-1).is(BAD);
        x.ring(MIN).is(BAD);
        x.jobs(1).after(0, 0).is(Run.RING);
        x.ring(-1).is(BAD);
        x.ring(MIN).is(BAD);
    }

    private static void ringAlone(Run x) {
        x.chain(10).after(4, 4).isRing(4);
        x.after(0, 0).isRing(0);
        x.after(9, 9).isRing(9);
    }

    private static void ringBehind(Run x) {
        x.chain(10).after(8, 9).isRing(8, 9);
        x.ring(2).is(NONE);
        x.ring(MAX).is(NONE);
        x.after(0, 9).isRing(0, 9, 8, 7, 6, 5, 4, 3, 2, 1);
        x.ring(10).is(NONE);
        x.ring(MAX).is(NONE);
    }

    /** One way of four JOBS over lesser numbers, one of three. */
    private static void ringFewest(Run x) {
        x.jobs(6).after(5, 1).is(1);
        x.after(1, 2);
        x.after(2, 0);
        x.after(5, 4);
        x.after(4, 0);
        x.after(0, 5).isRing(0, 5, 4);
        x.after(5, 0).is(1);
        x.after(0, 5).isRing(0, 5);
    }

    /** 9 over 5, 4 or over 6, 3: the first place tells, though the second one is greater. */
    private static void ringLesser(Run x) {
        x.jobs(10).after(9, 6).is(1);
        x.after(6, 3);
        x.after(3, 0);
        x.after(9, 5);
        x.after(5, 4);
        x.after(4, 0);
        x.after(0, 9).isRing(0, 9, 5, 4);
        x.after(5, 3).is(1);
        x.after(0, 9).isRing(0, 9, 5, 3);
        x.after(9, 1).is(1);
        x.after(1, 2).is(1);
        x.after(0, 9).isRing(0, 9, 5, 3);
    }

    /** JOBS as near to the first as those of the RING, or once near to another first, are no way. */
    private static void ringAmongOthers(Run x) {
        x.jobs(10).after(3, 0).is(1);
        x.after(4, 0).is(1);
        x.after(5, 3).is(1);
        x.after(0, 5).isRing(0, 5, 3);
        x.after(8, 4).is(1);
        x.after(8, 7).is(1);
        x.after(7, 9).is(1);
        x.after(9, 8).isRing(9, 8, 7);
        x.after(0, 2).is(1);
        x.after(2, 5).isRing(2, 5, 3, 0);
        x.after(2, 4).isRing(2, 4, 0);
    }

    /** 3 would close a shorter one over 1, but it was to wait for 2. */
    private static void ringOverTheOther(Run x) {
        x.jobs(5).after(1, 3).is(1);
        x.after(2, 4).is(1);
        x.after(4, 1).is(1);
        x.after(3, 2).isRing(3, 2, 4, 1);
        x.after(3, 1).isRing(3, 1);
    }

    private static void ringLatest(Run x) {
        x.chain(4).after(0, 3).isRing(0, 3, 2, 1);
        x.after(1, 2).isRing(1, 2);
        x.after(3, 3).isRing(3);
        x.after(0, 2).isRing(0, 2, 1);
    }

    private static void ringStays(Run x) {
        x.chain(4).fill(0, 0, 3, 99);
        x.after(0, 2).isRing(0, 2, 1);
        x.after(0, 4).isRefused(BAD);
        x.read(0, 0, 1, 1).isRefused(JOB);
        x.read(0, 5, 0, 1).isRefused(NULL);
        x.after(3, 0).is(1);
        x.after(3, 0).is(0);
        x.free(1, 0).is(1);
        x.ringIs(0, 2, 1);
        for (int k = 0; k < 9; k++) {
            x.undo().is(1);
        }
        x.count(0).is(0);
        x.ringIs(0, 2, 1);
        x.jobs(2).after(1, 0).is(1);
        x.ringIs(0, 2, 1);
    }

    private static void ringOfRead(Run x) {
        x.chain(4).jobs(2).fill(0, 2, 4, 5, 2, 3, 1);
        x.read(1, 0, 0, 5).isRing(1, 2);
        x.read(1, 0, 3, 2).isRing(1, 3, 2);
        x.read(1, 0, 4, 1).isRing(1);
    }

    /** Those ahead make 0 wait for more, and it stays the first of the RING, with the same way back. */
    private static void ringOfReadWithThoseAhead(Run x) {
        x.jobs(6).after(5, 4).is(1);
        x.after(4, 0).is(1);
        x.after(5, 3).is(1);
        x.after(3, 0).is(1);
        x.fill(0, 0, 1, 2, 5);
        x.read(0, 0, 0, 3).isRing(0, 5, 3);
        x.fill(0, 0, 1, 1, 0);
        x.read(0, 0, 0, 3).isRing(0);
    }

    // ---- promise 11

    private static Run oneOfEach(Run x) {
        x.job(0, 7, 8);
        x.job(1, 40, 8);
        x.job(2, 1, 40);
        x.job(3, 0, 8);
        x.job(1, 1, 8);
        x.job(2, 40, 40);
        x.job(3, 1, 8);
        return x;
    }

    private static void aboutKind(Run x) {
        oneOfEach(x).aboutIs(0, 0, 1, 2, 3, 1, 2, 3);
    }

    private static void aboutBegin(Run x) {
        oneOfEach(x).aboutIs(1, NONE, NONE, 1, NONE, NONE, 40, NONE);
    }

    private static void aboutEnd(Run x) {
        oneOfEach(x).aboutIs(2, NONE, 40, 40, NONE, 1, 40, NONE);
    }

    private static void aboutBench(Run x) {
        oneOfEach(x).aboutIs(3, NONE, NONE, NONE, 0, NONE, NONE, 1);
    }

    private static void aboutWaits(Run x) {
        x.chain(10).aboutIs(4, 0, 1, 2, 4, 8, 16, 32, 64, 128, 256);
        x.free(9, 8);
        x.after(0, 9);
        x.aboutIs(4, 512, 1, 2, 4, 8, 16, 32, 64, 128, 0);
    }

    private static void aboutBehind(Run x) {
        x.chain(10).aboutIs(5, 0, 1, 3, 7, 15, 31, 63, 127, 255, 511);
        Run y = x.another().jobs(10);
        for (int a = 0; a < 9; a++) {
            y.after(a, a + 1);
        }
        y.aboutIs(5, 1022, 1020, 1016, 1008, 992, 960, 896, 768, 512, 0);
    }

    private static void aboutFollowers(Run x) {
        x.chain(10).aboutIs(6, 1022, 1020, 1016, 1008, 992, 960, 896, 768, 512, 0);
        x.free(5, 4);
        x.aboutIs(6, 30, 28, 24, 16, 0, 960, 896, 768, 512, 0);
    }

    /** 2 WAITS FOR 0, but over 1; 3 is behind 0 alone; 9 stands for itself. */
    private static void aboutNexts(Run x) {
        x.chain(3).jobs(7).after(2, 0).is(1);
        x.after(3, 0);
        x.aboutIs(7, 10, 4, 0, 0, 0, 0, 0, 0, 0, 0);
        x.free(2, 1);
        x.aboutIs(7, 14, 0, 0, 0, 0, 0, 0, 0, 0, 0);
        x.after(9, 2);
        x.after(9, 3);
        x.after(9, 0);
        x.aboutIs(7, 14, 0, 512, 512, 0, 0, 0, 0, 0, 0);
    }

    /** 0 has a short row of JOBS behind it, and a long one. */
    private static void aboutDepth(Run x) {
        x.jobs(1).about(0, 8).is(1);
        x.chain(9);
        x.aboutIs(8, 1, 9, 8, 7, 6, 5, 4, 3, 2, 1);
        x.after(9, 0);
        x.about(0, 8).is(2);
        x.after(8, 0);
        x.about(0, 8).is(3);
        x.after(1, 0);
        x.aboutIs(8, 10, 9, 8, 7, 6, 5, 4, 3, 2, 1);
        x.count(4).is(10);
    }

    private static void aboutLabel(Run x) {
        x.chain(10).aboutIs(9, 10, 9, 8, 7, 6, 5, 4, 3, 2, 1);
        x.another().jobs(10).aboutIs(9, 1, 2, 3, 4, 5, 6, 7, 8, 9, 10);
    }

    private static void aboutHour(Run x) {
        x.chain(10).aboutIs(10, 1, 2, 3, 4, 5, 6, 7, 8, 9, 10);
        x.another().jobs(10).aboutIs(10, 5, 5, 4, 4, 3, 3, 2, 2, 1, 1);
    }

    private static void aboutKeptHour(Run x) {
        x.chain(10).aboutIs(11, 1, 2, 3, 4, 5, 6, 7, 8, 9, 10);
        Run y = x.another();
        y.job(2, 40, 40);
        y.job(1, 2, 0);
        y.job(0, 0, 0);
        y.after(2, 0);
        y.aboutIs(11, 40, 1, 41);
        y.job(1, 40, 0);
        y.after(3, 2);
        y.aboutIs(11, NONE, NONE, NONE, NONE);
        y.undo();
        y.aboutIs(11, 40, 1, 41, 1);
    }

    private static void aboutBad(Run x) {
        oneOfEach(x);
        for (int what : new int[] {-1, 12, MIN, MAX}) {
            x.about(0, what).isRefused(-9);
        }
        for (int a : new int[] {-1, 7, 10, MIN, MAX}) {
            for (int what = -1; what <= 12; what++) {
                x.about(a, what).is(-9);
            }
        }
        x.undo();
        x.about(6, 0).is(-9);
    }

    // ---- promise 12

    private static void undoNothing(Run x) {
        x.undo().isRefused(NONE);
        x.jobs(1).undo().is(1);
        x.undo().isRefused(NONE);
        x.undo().isRefused(NONE);
        x.count(2).is(0);
    }

    private static void undoJob(Run x) {
        x.jobs(1).job(2, 3, 4).is(1);
        x.undo().is(1);
        x.count(0).is(1);
        x.about(1, 0).is(-9);
        x.least().is(1);
        x.kept().is(1);
        x.job(3, 1, 0).is(1);
        x.aboutIs(0, 0, 3);
        x.aboutIs(1, NONE, NONE);
        x.aboutIs(2, NONE, NONE);
        x.aboutIs(3, NONE, 1);
        x.aboutIs(4, 0, 0);
    }

    private static void undoAfter(Run x) {
        x.chain(3).least().is(3);
        x.undo().is(1);
        x.aboutIs(4, 0, 1, 0);
        x.aboutIs(6, 2, 0, 0);
        x.least().is(2);
        x.kept().is(2);
        x.after(1, 2).is(1);
    }

    private static void undoRead(Run x) {
        x.jobs(5).fill(0, 0, 1, 2, 3, 4);
        x.after(0, 3);
        x.read(0, 0, 0, 4).is(3);
        x.count(1).is(4);
        x.undo().is(1);
        x.about(0, 4).is(8);
        x.count(1).is(1);
        x.count(2).is(6);
    }

    private static void undoFree(Run x) {
        x.chain(3).after(2, 0).is(1);
        x.free(2, 1).is(1);
        x.about(2, 4).is(1);
        x.undo().is(1);
        x.about(2, 4).is(3);
        x.after(1, 2).is(Run.RING);
    }

    private static void undoPassesOverNoChanges(Run x) {
        x.chain(3).fill(0, 0, 1, 9);
        x.after(2, 1).is(0);
        x.free(2, 0).is(0);
        x.read(2, 0, 0, 1).is(0);
        x.read(2, 0, 0, 0).is(0);
        x.read(2, 0, 0, 2).is(JOB);
        x.after(0, 2).is(Run.RING);
        x.after(0, 9).is(BAD);
        x.job(4, 0, 0).is(BAD);
        x.least().is(3);
        x.count(2).is(5);
        x.undo().is(1);
        x.about(2, 4).is(0);
        x.count(2).is(4);
    }

    private static void undoGoesFurther(Run x) {
        x.chain(4).undo().is(1);
        x.after(3, 0).is(1);
        x.undo().is(1);
        x.aboutIs(4, 0, 1, 2, 0);
        x.undo().is(1);
        x.aboutIs(4, 0, 1, 0, 0);
        x.undo().is(1);
        x.aboutIs(4, 0, 0, 0, 0);
        x.undo().is(1);
        x.count(0).is(3);
        x.count(2).is(3);
    }

    /** As many changes as before the undo(), but others: nothing is answered out of the undone ones. */
    private static void undoThenOther(Run x) {
        x.jobs(3).after(1, 0).is(1);
        x.about(1, 5).is(1);
        x.dayIs(0, 2, 1, NONE);
        x.codesAre(2, 21);
        x.undo().is(1);
        x.after(0, 2).is(1);
        x.aboutIs(5, 4, 0, 0);
        x.dayIs(2, 1, 0, NONE);
        x.codesAre(13, 10);
        x.undo();
        x.undo();
        x.job(1, 1, 0).is(2);
        x.aboutIs(5, 0, 0, 0);
        x.dayIs(2, 1, 0, NONE);
        x.codesAre(2, 21);
    }

    private static void undoTwenty(Run x) {
        x.jobs(2);
        for (int k = 0; k < 9; k++) {
            x.count(2).is(2 + 2 * k);
            x.after(1, 0).is(1);
            x.free(1, 0).is(1);
        }
        x.count(2).is(20);
        x.after(0, 1).is(1);
        x.count(2).is(20);
        for (int left = 19; left >= 0; left--) {
            x.undo().is(1);
            x.count(2).is(left);
        }
        x.count(0).is(1);
        x.undo().isRefused(NONE);
    }

    /** Ten JOBS, nine waits, a read, a free, a wait: 22 changes, so the first two JOBS stay. */
    private static void undoTwentyOfAllSorts(Run x) {
        x.chain(10).fill(0, 0, 0, 1, 2);
        x.read(9, 0, 0, 3).is(3);
        x.free(9, 8).is(1);
        x.after(9, 7).is(1);
        x.count(2).is(20);
        x.undo().is(1);
        x.about(9, 4).is(7);
        x.undo().is(1);
        x.about(9, 4).is(263);
        x.undo().is(1);
        x.about(9, 4).is(256);
        for (int a = 9; a >= 1; a--) {
            x.undo().is(1);
            x.about(a, 4).is(0);
        }
        for (int left = 9; left >= 2; left--) {
            x.undo().is(1);
            x.count(0).is(left);
        }
        x.undo().isRefused(NONE);
        x.count(0).is(2);
        x.jobs(8).job(0, 0, 0).is(FULL);
    }

    private static void undoLeavesSheets(Run x) {
        x.jobs(2).fill(0, 0, 1, 2);
        x.read(0, 0, 0, 1).is(1);
        x.fill(1, 2, 70000);
        x.copy(0, 0, 0, 1, 1);
        x.count(2).is(3);
        x.undo().is(1);
        x.about(0, 4).is(0);
        x.rowIs(0, 1, 1);
        x.rowIs(1, 70000);
    }
}
