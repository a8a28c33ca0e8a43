/** Promises 1 to 5 and the terms of SHEETS: a method for each sentence that names a boundary case. */
public final class SheetSentencesTest {
    private static final int NULL = Run.NULL, INDEX = Run.INDEX, SIZE = Run.SIZE, STORE = Run.STORE;
    private static final int BAD = Run.BAD, NONE = Run.NONE, MIN = Run.MIN, MAX = Run.MAX;
    private static final long TOLD_BAD = Run.TOLD_BAD, TOLD_NULL = Run.TOLD_NULL, TOLD_INDEX = Run.TOLD_INDEX;
    private static final int[] NO_SHEETS = {-1, 6, MIN, MAX};

    public static void main(String[] args) {
        Sentences s = new Sentences();
        newObject(s);
        sheet(s);
        put(s);
        copy(s);
        told(s);
        s.end();
    }

    private static void newObject(Sentences s) {
        s.test("1: No JOBS", SheetSentencesTest::noJobs);
        s.test("1: No JOBS: its days are empty", SheetSentencesTest::emptyDays);
        s.test("1: all SHEETS are MISSING", SheetSentencesTest::allMissing);
        s.test("1: a new object has nothing of another one", SheetSentencesTest::nothingOfAnother);
        s.test("an object is used for at most 512 calls: the last one holds, too", SheetSentencesTest::lastCall);
    }

    private static void sheet(Sentences s) {
        s.test("2: SHEETS 0 to 5", SheetSentencesTest::sheetNumbers);
        s.test("2: a row of 0 places", SheetSentencesTest::noPlaces);
        s.test("2: a row of 16 places", SheetSentencesTest::sixteenPlaces);
        s.test("2: all 0, whatever it was", SheetSentencesTest::allZero);
        s.test("2: kind 0 to 2, or -1", SheetSentencesTest::sheetKinds);
        s.test("2: MISSING (-1; n counts for nothing)", SheetSentencesTest::becomesMissing);
        s.test("2: BAD: also n above 16", SheetSentencesTest::tooManyPlaces);
        s.test("2: SIZE: n below 0", SheetSentencesTest::placesBelowNone);
        s.test("2: BAD comes ahead of SIZE", SheetSentencesTest::sheetOrder);
    }

    private static void put(Sentences s) {
        s.test("3: cut to what a byte keeps", SheetSentencesTest::bytesAreCut);
        s.test("3: cut to what a short keeps", SheetSentencesTest::shortsAreCut);
        s.test("3: cut to what an int keeps", SheetSentencesTest::intsAreWhole);
        s.test("3: the first and the last place", SheetSentencesTest::putEdges);
        s.test("3: BAD", SheetSentencesTest::putBad);
        s.test("3: NULL", SheetSentencesTest::putNull);
        s.test("3: INDEX", SheetSentencesTest::putIndex);
        s.test("3: of several the first", SheetSentencesTest::putOrder);
    }

    private static void copy(Sentences s) {
        s.test("4: n places from i on come to j on, no other", SheetSentencesTest::copiesJustThese);
        s.test("4: a whole SHEET of 16 places", SheetSentencesTest::copiesAll);
        s.test("4: of each sort", SheetSentencesTest::copiesEachSort);
        s.test("4: each as it was ahead of all: to places above", SheetSentencesTest::copiesUp);
        s.test("4: each as it was ahead of all: to places below", SheetSentencesTest::copiesDown);
        s.test("4: to where they stand", SheetSentencesTest::copiesOntoItself);
        s.test("4: no places, at the end", SheetSentencesTest::copiesNone);
        s.test("4: BAD: r, t", SheetSentencesTest::copyBad);
        s.test("4: NULL (of either)", SheetSentencesTest::copyNull);
        s.test("4: STORE", SheetSentencesTest::copyStore);
        s.test("4: INDEX: n is below 0", SheetSentencesTest::copyLessThanNone);
        s.test("4: INDEX: i is below 0", SheetSentencesTest::copyFromBelow);
        s.test("4: INDEX: j is below 0", SheetSentencesTest::copyToBelow);
        s.test("4: INDEX: they go beyond the SHEET they come from", SheetSentencesTest::copyFromBeyond);
        s.test("4: INDEX: they go beyond the SHEET they come to", SheetSentencesTest::copyToBeyond);
        s.test("4: INDEX: none, but from or to beyond the end", SheetSentencesTest::copyNoneBeyond);
        s.test("4: INDEX: where i + n or j + n wraps around", SheetSentencesTest::copyWraps);
        s.test("4: of several the first", SheetSentencesTest::copyOrder);
    }

    private static void told(Sentences s) {
        s.test("5: Place i of a SHEET, the least and the greatest numbers", SheetSentencesTest::toldValues);
        s.test("5: BAD 10000000001", SheetSentencesTest::toldBad);
        s.test("5: NULL 10000000011", SheetSentencesTest::toldNull);
        s.test("5: INDEX 10000000012", SheetSentencesTest::toldIndex);
        s.test("5: of several the first", SheetSentencesTest::toldOrder);
    }

    // ---- promise 1

    private static void noJobs(Run x) {
        x.count(0).is(0);
        x.count(1).is(0);
        x.count(2).is(0);
        x.undo().isRefused(NONE);
        x.ring(0).is(NONE);
        for (int what = -1; what <= 12; what++) {
            x.about(0, what).is(-9);
        }
        x.after(0, 0).isRefused(BAD);
        x.free(0, 0).isRefused(BAD);
        x.sheet(0, 0, 1);
        x.read(0, 0, 0, 0).isRefused(BAD);
    }

    private static void emptyDays(Run x) {
        x.least().is(0);
        x.rest(0).is(0);
        x.rest(1).is(0);
        x.pairs().is(0);
        x.dayIs();
        x.idle(0).is(NONE);
        x.codesAre();
        x.count(3).is(0);
        x.count(4).is(0);
        x.check(0L).is(2);
        x.check(-1L).is(2);
        x.check(Long.MIN_VALUE).is(2);
    }

    private static void allMissing(Run x) {
        for (int r = 0; r <= 5; r++) {
            x.told(r, 0).is(TOLD_NULL);
            x.put(r, 0, 1).isRefused(NULL);
            x.copy(r, 0, r, 0, 0).isRefused(NULL);
        }
        x.jobs(1);
        x.read(0, 0, 0, 0).isRefused(NULL);
    }

    private static void nothingOfAnother(Run x) {
        x.fill(0, 0, 1);
        x.jobs(2);
        x.after(1, 0);
        x.after(0, 1);
        Run y = x.another();
        noJobs(y.another());
        emptyDays(y.another());
        allMissing(y);
        x.count(0).is(2);
    }

    private static void lastCall(Run x) {
        x.jobs(2);
        for (int k = 0; k < 254; k++) {
            x.after(1, 0).is(1);
            x.free(1, 0).is(1);
        }
        x.after(0, 1).is(1);
        x.least().is(2);
    }

    // ---- promise 2

    private static void sheetNumbers(Run x) {
        for (int r = 0; r <= 5; r++) {
            x.sheet(r, 0, 1).is(0);
            x.rowIs(r, 0);
        }
        for (int r : NO_SHEETS) {
            x.sheet(r, 0, 1).isRefused(BAD);
            x.sheet(r, -1, 1).isRefused(BAD);
        }
    }

    private static void noPlaces(Run x) {
        for (int kind = 0; kind <= 2; kind++) {
            x.sheet(kind, kind, 0).is(0);
            x.rowIs(kind);
        }
    }

    private static void sixteenPlaces(Run x) {
        for (int kind = 0; kind <= 2; kind++) {
            x.sheet(kind, kind, 16).is(0);
            x.rowIs(kind, new long[16]);
            x.put(kind, 15, 1).is(0);
            x.told(kind, 15).is(1);
        }
    }

    private static void allZero(Run x) {
        x.fill(0, 0, 1, 2, 3);
        x.fill(1, 1, 5, 6);
        x.sheet(0, 0, 3).is(0);
        x.rowIs(0, 0, 0, 0);
        x.put(0, 2, 9);
        x.sheet(0, 0, 1).is(0);
        x.sheet(0, 2, 4).is(0);
        x.rowIs(0, 0, 0, 0, 0);
        x.put(0, 0, 70000);
        x.sheet(0, -1, 0).is(0);
        x.sheet(0, 2, 2).is(0);
        x.rowIs(0, 0, 0);
        x.rowIs(1, 5, 6);
    }

    private static void sheetKinds(Run x) {
        x.fill(0, 0, 7);
        for (int kind : new int[] {-2, 3, MIN, MAX}) {
            x.sheet(0, kind, 1).isRefused(BAD);
        }
        for (int kind = 0; kind <= 2; kind++) {
            x.sheet(0, kind, 1).is(0);
            x.put(0, 0, 40000);
            x.told(0, 0).is(kind == 0 ? 64 : kind == 1 ? -25536 : 40000);
        }
    }

    private static void becomesMissing(Run x) {
        for (int n : new int[] {0, 16, 17, MAX, -1, MIN}) {
            x.fill(3, 1, 4, 5);
            x.sheet(3, -1, n).is(0);
            x.told(3, 0).is(TOLD_NULL);
            x.sheet(3, -1, n).changesNothing(0);
        }
    }

    private static void tooManyPlaces(Run x) {
        x.fill(0, 1, 4, 5);
        for (int kind = 0; kind <= 2; kind++) {
            x.sheet(0, kind, 17).isRefused(BAD);
            x.sheet(0, kind, MAX).isRefused(BAD);
            x.sheet(1, kind, 17).isRefused(BAD);
        }
    }

    private static void placesBelowNone(Run x) {
        x.fill(0, 1, 4, 5);
        for (int kind = 0; kind <= 2; kind++) {
            x.sheet(0, kind, -1).isRefused(SIZE);
            x.sheet(0, kind, MIN).isRefused(SIZE);
            x.sheet(1, kind, -1).isRefused(SIZE);
        }
    }

    private static void sheetOrder(Run x) {
        x.sheet(-1, 0, -1).isRefused(BAD);
        x.sheet(6, 0, -1).isRefused(BAD);
        x.sheet(0, -2, -1).isRefused(BAD);
        x.sheet(0, 3, -1).isRefused(BAD);
    }

    // ---- promise 3

    private static void bytesAreCut(Run x) {
        x.fill(0, 0, 127, 128, -128, -129, 255, 256, MAX, MIN);
        x.rowIs(0, 127, -128, -128, 127, -1, 0, -1, 0);
    }

    private static void shortsAreCut(Run x) {
        x.fill(0, 1, 32767, 32768, -32768, -32769, 65535, 65536, MAX, MIN);
        x.rowIs(0, 32767, -32768, -32768, 32767, -1, 0, -1, 0);
    }

    private static void intsAreWhole(Run x) {
        x.fill(0, 2, MAX, MIN, 65536, -65537, -1);
        x.rowIs(0, MAX, MIN, 65536, -65537, -1);
    }

    private static void putEdges(Run x) {
        x.sheet(0, 0, 3);
        x.sheet(1, 0, 3);
        x.put(0, 0, 5).is(0);
        x.rowIs(0, 5, 0, 0);
        x.put(0, 2, 6).is(0);
        x.rowIs(0, 5, 0, 6);
        x.put(0, 2, 7).is(0);
        x.rowIs(0, 5, 0, 7);
        x.rowIs(1, 0, 0, 0);
    }

    private static void putBad(Run x) {
        x.fill(0, 0, 1);
        x.fill(5, 0, 1);
        for (int r : NO_SHEETS) {
            x.put(r, 0, 9).isRefused(BAD);
        }
    }

    private static void putNull(Run x) {
        x.put(5, 0, 9).isRefused(NULL);
        x.fill(0, 2, 3);
        x.sheet(0, -1, 0);
        x.put(0, 0, 9).isRefused(NULL);
    }

    private static void putIndex(Run x) {
        x.fill(0, 0, 1, 2, 3);
        x.fill(1, 2);
        x.sheet(2, 1, 16);
        for (int i : new int[] {-1, 3, 15, 16, MIN, MAX}) {
            x.put(0, i, 9).isRefused(INDEX);
        }
        x.put(1, 0, 9).isRefused(INDEX);
        x.put(1, -1, 9).isRefused(INDEX);
        x.put(2, 16, 9).isRefused(INDEX);
    }

    private static void putOrder(Run x) {
        x.put(6, -1, 9).isRefused(BAD);
        x.put(5, -1, 9).isRefused(NULL);
    }

    // ---- promise 4

    private static Run twoSheets(Run x) {
        return x.fill(0, 0, 1, 2, 3, 4, 5).fill(1, 0, 9, 8, 7);
    }

    private static void copiesJustThese(Run x) {
        twoSheets(x).copy(0, 3, 1, 1, 1).is(0);
        x.rowIs(1, 9, 4, 7);
        x.rowIs(0, 1, 2, 3, 4, 5);
        x.copy(0, 2, 1, 0, 3).is(0);
        x.rowIs(1, 3, 4, 5);
        x.copy(1, 1, 0, 3, 2).is(0);
        x.rowIs(0, 1, 2, 3, 4, 5);
        x.copy(1, 0, 0, 0, 2).is(0);
        x.rowIs(0, 3, 4, 3, 4, 5);
        x.rowIs(1, 3, 4, 5);
    }

    private static void copiesAll(Run x) {
        x.sheet(0, 2, 16);
        x.sheet(5, 2, 16);
        long[] want = new long[16];
        for (int i = 0; i < 16; i++) {
            want[i] = 100000 + i;
            x.put(0, i, 100000 + i);
        }
        x.copy(0, 0, 5, 0, 16).is(0);
        x.rowIs(5, want);
    }

    private static void copiesEachSort(Run x) {
        x.fill(0, 0, -128, 127).fill(1, 0, 0, 0);
        x.fill(2, 1, -32768, 32767).fill(3, 1, 0, 0);
        x.fill(4, 2, MIN, MAX).fill(5, 2, 0, 0);
        for (int r = 0; r < 6; r += 2) {
            x.copy(r, 0, r + 1, 0, 2).is(0);
        }
        x.rowIs(1, -128, 127);
        x.rowIs(3, -32768, 32767);
        x.rowIs(5, MIN, MAX);
    }

    private static void copiesUp(Run x) {
        twoSheets(x).copy(0, 0, 0, 1, 4).is(0);
        x.rowIs(0, 1, 1, 2, 3, 4);
    }

    private static void copiesDown(Run x) {
        twoSheets(x).copy(0, 1, 0, 0, 4).is(0);
        x.rowIs(0, 2, 3, 4, 5, 5);
    }

    private static void copiesOntoItself(Run x) {
        twoSheets(x).copy(0, 1, 0, 1, 4).changesNothing(0);
    }

    private static void copiesNone(Run x) {
        twoSheets(x).copy(0, 5, 1, 3, 0).changesNothing(0);
        x.copy(0, 0, 1, 0, 0).changesNothing(0);
        x.fill(2, 0).copy(2, 0, 2, 0, 0).changesNothing(0);
        x.copy(2, 0, 1, 3, 0).changesNothing(0);
    }

    private static void copyBad(Run x) {
        twoSheets(x);
        for (int r : NO_SHEETS) {
            x.copy(r, 0, 1, 0, 1).isRefused(BAD);
            x.copy(0, 0, r, 0, 1).isRefused(BAD);
        }
    }

    private static void copyNull(Run x) {
        twoSheets(x).copy(0, 0, 5, 0, 1).isRefused(NULL);
        x.copy(5, 0, 0, 0, 1).isRefused(NULL);
        x.copy(4, 0, 5, 0, 1).isRefused(NULL);
        x.copy(5, 0, 5, 0, 0).isRefused(NULL);
    }

    private static void copyStore(Run x) {
        x.fill(0, 0, 1).fill(1, 1, 2).fill(2, 2, 3);
        for (int r = 0; r <= 2; r++) {
            for (int t = 0; t <= 2; t++) {
                if (r != t) {
                    x.copy(r, 0, t, 0, 1).isRefused(STORE);
                    x.copy(r, 0, t, 0, 0).isRefused(STORE);
                }
            }
        }
    }

    private static void copyLessThanNone(Run x) {
        twoSheets(x).copy(0, 1, 1, 1, -1).isRefused(INDEX);
        x.copy(0, 0, 1, 0, -1).isRefused(INDEX);
        x.copy(0, 0, 1, 0, MIN).isRefused(INDEX);
    }

    private static void copyFromBelow(Run x) {
        twoSheets(x).copy(0, -1, 1, 0, 1).isRefused(INDEX);
        x.copy(0, -1, 1, 0, 0).isRefused(INDEX);
        x.copy(0, MIN, 1, 0, 1).isRefused(INDEX);
    }

    private static void copyToBelow(Run x) {
        twoSheets(x).copy(0, 0, 1, -1, 1).isRefused(INDEX);
        x.copy(0, 0, 1, -1, 0).isRefused(INDEX);
        x.copy(0, 0, 1, MIN, 1).isRefused(INDEX);
    }

    private static void copyFromBeyond(Run x) {
        twoSheets(x).copy(1, 1, 0, 0, 3).isRefused(INDEX);
        x.copy(1, 3, 0, 0, 1).isRefused(INDEX);
        x.copy(1, 0, 0, 0, 4).isRefused(INDEX);
        x.copy(1, 15, 0, 0, 1).isRefused(INDEX);
    }

    private static void copyToBeyond(Run x) {
        twoSheets(x).copy(0, 0, 1, 1, 3).isRefused(INDEX);
        x.copy(0, 0, 1, 3, 1).isRefused(INDEX);
        x.copy(0, 0, 1, 0, 4).isRefused(INDEX);
        x.copy(0, 0, 1, 15, 1).isRefused(INDEX);
    }

    private static void copyNoneBeyond(Run x) {
        twoSheets(x).copy(0, 6, 1, 0, 0).isRefused(INDEX);
        x.copy(0, 0, 1, 4, 0).isRefused(INDEX);
        x.copy(0, MAX, 1, 0, 0).isRefused(INDEX);
    }

    private static void copyWraps(Run x) {
        twoSheets(x).copy(0, 1, 1, 0, MAX).isRefused(INDEX);
        x.copy(0, MAX, 1, 0, 1).isRefused(INDEX);
        x.copy(0, 0, 1, MAX, 1).isRefused(INDEX);
        x.copy(0, MAX, 1, MAX, MAX).isRefused(INDEX);
        x.copy(0, MIN, 1, 0, MIN).isRefused(INDEX);
        x.copy(0, MAX, 1, 0, MIN).isRefused(INDEX);
    }

    private static void copyOrder(Run x) {
        x.fill(0, 0, 1).fill(1, 1, 2);
        x.copy(5, 0, 6, 0, -1).isRefused(BAD);
        x.copy(6, 0, 5, 0, -1).isRefused(BAD);
        x.copy(0, 0, 5, 0, -1).isRefused(NULL);
        x.copy(5, 9, 1, 0, 1).isRefused(NULL);
        x.copy(0, 0, 1, 0, -1).isRefused(STORE);
        x.copy(0, 2, 1, 0, 1).isRefused(STORE);
    }

    // ---- promise 5

    private static void toldValues(Run x) {
        x.fill(0, 0, -128, 127).fill(1, 1, -32768, 32767).fill(2, 2, MIN, MAX);
        x.told(0, 0).changesNothing(-128);
        x.rowIs(0, -128, 127);
        x.rowIs(1, -32768, 32767);
        x.rowIs(2, MIN, MAX);
    }

    private static void toldBad(Run x) {
        x.fill(0, 0, 1).fill(5, 0, 1);
        for (int r : NO_SHEETS) {
            x.told(r, 0).isRefused(TOLD_BAD);
        }
    }

    private static void toldNull(Run x) {
        x.told(5, 0).isRefused(TOLD_NULL);
        x.fill(5, 0, 1).sheet(5, -1, 1);
        x.told(5, 0).isRefused(TOLD_NULL);
    }

    private static void toldIndex(Run x) {
        x.fill(0, 2, 1, 2).fill(1, 0).sheet(2, 1, 16);
        for (int i : new int[] {-1, 2, 15, 16, MIN, MAX}) {
            x.told(0, i).isRefused(TOLD_INDEX);
        }
        x.told(1, 0).isRefused(TOLD_INDEX);
        x.told(2, 16).isRefused(TOLD_INDEX);
    }

    private static void toldOrder(Run x) {
        x.told(6, -1).isRefused(TOLD_BAD);
        x.told(5, -1).isRefused(TOLD_NULL);
    }
}
