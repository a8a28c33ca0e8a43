/** Promises 13 to 21 and the terms of days: a method for each sentence that names a boundary case. */
public final class DaySentencesTest {
    private static final int BAD = Run.BAD, NONE = Run.NONE, MIN = Run.MIN, MAX = Run.MAX;
    private static final int EMPTY = 120;

    public static void main(String[] args) {
        Sentences s = new Sentences();
        labels(s);
        dayByLabels(s);
        pairsAndRest(s);
        kept(s);
        code(s);
        check(s);
        count(s);
        s.end();
    }

    private static void labels(Sentences s) {
        s.test("LABELS: all whose NEXTS behind them have LABELS", DaySentencesTest::labelsFromTheEndOn);
        s.test("LABELS: the first place at which they differ tells (the lesser)", DaySentencesTest::labelsFirstPlace);
        s.test("LABELS: the first place, where a later one differs", DaySentencesTest::labelsLaterPlace);
        s.test("LABELS: else the shorter one comes first", DaySentencesTest::labelsShorter);
        s.test("LABELS: the shortest row is the empty one", DaySentencesTest::labelsEmptyRow);
        s.test("LABELS: of like ones the lesser number", DaySentencesTest::labelsLesserNumber);
        s.test("LABELS: of NEXTS, not of all that were told to wait", DaySentencesTest::labelsOfNexts);
        s.test("LABELS: of the NEXTS that there are now", DaySentencesTest::labelsAnew);
        s.test("LABELS: BEGIN, END, BENCH not looked at", DaySentencesTest::kindsNotLookedAt);
    }

    private static void dayByLabels(Sentences s) {
        s.test("13: LEAST: 0 without JOBS", DaySentencesTest::leastWithoutJobs);
        s.test("13: LEAST: from all at once to one by one", DaySentencesTest::leastEdges);
        s.test("13: LEAST is the least LENGTH of any DAY", DaySentencesTest::leastOfAny);
        s.test("14: two (or the one) with the greatest LABELS", DaySentencesTest::dayTwoOrOne);
        s.test("14: only BEHIND what stands in HOURS ahead", DaySentencesTest::dayNotInTheSameHour);
        s.test("14: JOB 0 is the one with the greater LABEL", DaySentencesTest::dayGreaterFirst);
        s.test("14: NONE", DaySentencesTest::dayNone);
        s.test("14: BAD: hour below 1", DaySentencesTest::dayHourBad);
        s.test("14: BAD: i", DaySentencesTest::dayIndexBad);
        s.test("15: The i-th IDLE HOUR, rising", DaySentencesTest::idleRising);
        s.test("15: NONE", DaySentencesTest::idleNone);
        s.test("15: BAD: i below 0", DaySentencesTest::idleBad);
    }

    private static void pairsAndRest(Sentences s) {
        s.test("16: no PAIRS", DaySentencesTest::noPairs);
        s.test("16: each in one at most", DaySentencesTest::pairsOfLooseJobs);
        s.test("16: neither is BEHIND the other", DaySentencesTest::pairsNotBehind);
        s.test("16: the most pairs", DaySentencesTest::mostPairs);
        s.test("17: 0: LEAST", DaySentencesTest::restOfAll);
        s.test("17: JOBS that stand in HOURS above", DaySentencesTest::restAbove);
        s.test("17: behind the last HOUR none are left", DaySentencesTest::restBehindTheLast);
        s.test("17: BAD: below 0", DaySentencesTest::restBad);
    }

    private static void kept(Sentences s) {
        s.test("18: EARLY JOBS have no HOUR above their END", DaySentencesTest::keptEarly);
        s.test("18: EARLY: END 40", DaySentencesTest::keptEarlyForty);
        s.test("18: LATE ones none below their BEGIN", DaySentencesTest::keptLate);
        s.test("18: LATE, which is EARLY, too", DaySentencesTest::keptLateIsEarly);
        s.test("18: not both are OWNED by the same BENCH", DaySentencesTest::keptOwned);
        s.test("18: two at most in an HOUR, none that is not behind", DaySentencesTest::keptIsADay);
        s.test("18: HOURS may be EMPTY", DaySentencesTest::keptEmptyHours);
        s.test("18: NONE: there is none", DaySentencesTest::keptNone);
        s.test("18: (None has a LENGTH above 60.)", DaySentencesTest::keptLongest);
    }

    private static void code(Sentences s) {
        s.test("19: of JOBS a, b, a below b: 11 a + b", DaySentencesTest::codeOfTwo);
        s.test("19: of a alone 11 a + 10", DaySentencesTest::codeOfOne);
        s.test("19: EMPTY: 120", DaySentencesTest::codeOfNone);
        s.test("19: the least LENGTH, whatever the CODES", DaySentencesTest::codeLeastLength);
        s.test("19: of these whose CODE in HOUR 1 is least", DaySentencesTest::codeFirstHour);
        s.test("19: of these, though a lesser number must come later", DaySentencesTest::codeOfWhatMustComeLater);
        s.test("19: then in HOUR 2, and so on", DaySentencesTest::codeNextHours);
        s.test("19: NONE: there is none", DaySentencesTest::codeWithoutDay);
        s.test("19: NONE: the HOUR is above its LENGTH", DaySentencesTest::codeAboveLength);
        s.test("19: BAD: below 1", DaySentencesTest::codeBad);
    }

    private static void check(Sentences s) {
        s.test("20: six bits each, JOB 0 the lowest", DaySentencesTest::checkSixBits);
        s.test("20: 0: none", DaySentencesTest::checkNoHour);
        s.test("20: what stands above is not looked at", DaySentencesTest::checkAbove);
        s.test("20: without JOBS every number is a KEPT DAY", DaySentencesTest::checkWithoutJobs);
        s.test("20: two at most the same HOUR", DaySentencesTest::checkTwoAtMost);
        s.test("20: none that is not behind all that it is BEHIND", DaySentencesTest::checkBehind);
        s.test("20: a DAY of any LENGTH", DaySentencesTest::checkAnyLength);
        s.test("20: KEPT: no HOUR above the END", DaySentencesTest::checkEnds);
        s.test("20: KEPT: none below the BEGIN", DaySentencesTest::checkBegins);
        s.test("20: KEPT: not both OWNED by the same BENCH", DaySentencesTest::checkBenches);
        s.test("20: 0: no DAY, though it keeps to the KINDS or not", DaySentencesTest::checkNoDay);
    }

    private static void count(Sentences s) {
        s.test("21: 0 JOBS", DaySentencesTest::countJobs);
        s.test("21: 1 waits that were told and stand", DaySentencesTest::countWaits);
        s.test("21: 2 changes that can be undone", DaySentencesTest::countChanges);
        s.test("21: 3 IDLE HOURS of THE DAY by LABELS", DaySentencesTest::countIdle);
        s.test("21: 4 the greatest DEPTH", DaySentencesTest::countDepth);
        s.test("21: BAD", DaySentencesTest::countBad);
        s.test("what is asked changes nothing", DaySentencesTest::askingChangesNothing);
    }

    // ---- labels

    private static void labelsFromTheEndOn(Run x) {
        x.chain(10).aboutIs(9, 10, 9, 8, 7, 6, 5, 4, 3, 2, 1);
        Run y = x.another().jobs(3);
        y.after(0, 2);
        y.after(1, 2);
        y.aboutIs(9, 1, 2, 3);
        Run z = x.another().jobs(3);
        z.after(1, 0);
        z.after(2, 0);
        z.aboutIs(9, 3, 1, 2);
        Run w = x.another().jobs(10);
        for (int a = 0; a < 9; a++) {
            w.after(a, a + 1);
        }
        w.aboutIs(9, 1, 2, 3, 4, 5, 6, 7, 8, 9, 10);
    }

    /** Rows: of 3 (3), of 4 (2, 1). */
    private static void labelsFirstPlace(Run x) {
        x.jobs(5).after(2, 3);
        x.after(0, 4);
        x.after(1, 4);
        x.aboutIs(9, 1, 2, 3, 5, 4);
    }

    /** Rows: of 3 (3, 2), of 4 (3, 1). */
    private static void labelsLaterPlace(Run x) {
        x.jobs(5).after(2, 3);
        x.after(1, 3);
        x.after(2, 4);
        x.after(0, 4);
        x.aboutIs(9, 1, 2, 3, 5, 4);
    }

    /** Rows: of 2 (2, 1), of 3 (2). */
    private static void labelsShorter(Run x) {
        x.jobs(4).after(0, 2);
        x.after(1, 2);
        x.after(1, 3);
        x.aboutIs(9, 1, 2, 4, 3);
    }

    /** 0 could come once 1 has LABEL 1, but 2 and 3 have no row at all. */
    private static void labelsEmptyRow(Run x) {
        x.jobs(4).after(1, 0);
        x.aboutIs(9, 4, 1, 2, 3);
    }

    private static void labelsLesserNumber(Run x) {
        x.jobs(10).aboutIs(9, 1, 2, 3, 4, 5, 6, 7, 8, 9, 10);
        Run y = x.another().jobs(5);
        for (int a = 3; a >= 0; a--) {
            y.after(4, a);
        }
        y.aboutIs(9, 2, 3, 4, 5, 1);
    }

    /** 3 was told to wait for 0, too, but is NEXT behind 2 alone: the rows of 0 and 1 are both (2). */
    private static void labelsOfNexts(Run x) {
        x.jobs(4).after(3, 2);
        x.after(2, 0);
        x.after(2, 1);
        x.after(3, 0);
        x.aboutIs(7, 4, 4, 8, 0);
        x.aboutIs(9, 3, 4, 2, 1);
    }

    private static void labelsAnew(Run x) {
        x.jobs(4).after(1, 0);
        x.aboutIs(9, 4, 1, 2, 3);
        x.free(1, 0);
        x.aboutIs(9, 1, 2, 3, 4);
        x.undo();
        x.aboutIs(9, 4, 1, 2, 3);
    }

    private static void kindsNotLookedAt(Run x) {
        Run y = x.another().jobs(6);
        x.job(2, 9, 9);
        x.job(1, 1, 0);
        x.job(3, 0, 0);
        x.job(3, 0, 0);
        x.job(2, 40, 40);
        x.job(1, 1, 0);
        for (Run run : new Run[] {x, y}) {
            run.after(1, 0);
            run.after(5, 4);
            run.aboutIs(9, 5, 1, 2, 3, 6, 4);
            run.aboutIs(10, 1, 3, 3, 2, 1, 2);
            run.dayIs(4, 0, 5, 3, 2, 1);
            run.idle(0).is(NONE);
            run.count(3).is(0);
            run.count(4).is(2);
            run.pairs().is(3);
            run.rest(1).is(2);
        }
        x.kept().is(NONE);
    }

    // ---- promises 13 to 15

    private static void leastWithoutJobs(Run x) {
        x.least().is(0);
        x.jobs(1).least().is(1);
        x.undo().is(1);
        x.least().is(0);
    }

    private static void leastEdges(Run x) {
        for (int n = 1; n <= 10; n++) {
            x.another().jobs(n).least().is((n + 1) / 2);
            x.another().chain(n).least().is(n);
        }
    }

    /** Rows of JOBS that must begin at once, or go side by side. */
    private static void leastOfAny(Run x) {
        x.chain(5).chain(5).least().is(5);
        Run y = x.another().jobs(2).chain(3);
        y.least().is(3);
        y.dayIs(2, 1, 3, 0, 4, NONE);
        Run z = x.another().jobs(3);
        z.after(1, 0);
        z.after(2, 0);
        z.least().is(2);
        z.dayIs(0, NONE, 2, 1);
    }

    private static void dayTwoOrOne(Run x) {
        x.jobs(3).dayIs(2, 1, 0, NONE);
        x.another().jobs(1).dayIs(0, NONE);
        x.another().jobs(2).dayIs(1, 0);
        x.another().jobs(10).dayIs(9, 8, 7, 6, 5, 4, 3, 2, 1, 0);
    }

    private static void dayNotInTheSameHour(Run x) {
        x.chain(2).dayIs(0, NONE, 1, NONE);
        x.another().chain(10).dayIs(0, NONE, 1, NONE, 2, NONE, 3, NONE, 4, NONE,
                5, NONE, 6, NONE, 7, NONE, 8, NONE, 9, NONE);
    }

    private static void dayGreaterFirst(Run x) {
        x.jobs(4).after(3, 0);
        x.aboutIs(9, 4, 1, 2, 3);
        x.dayIs(0, 2, 3, 1);
    }

    private static void dayNone(Run x) {
        x.jobs(1).day(1, 1).is(NONE);
        x.day(2, 0).is(NONE);
        x.day(2, 1).is(NONE);
        x.day(11, 0).is(NONE);
        x.day(MAX, 0).is(NONE);
        x.day(MAX, 1).is(NONE);
        Run y = x.another().chain(10);
        y.day(10, 0).is(9);
        y.day(11, 0).is(NONE);
        y.undo();
        y.day(10, 0).is(NONE);
    }

    private static void dayHourBad(Run x) {
        x.jobs(2);
        for (int hour : new int[] {0, -1, MIN}) {
            x.day(hour, 0).isRefused(BAD);
            x.day(hour, 1).isRefused(BAD);
        }
    }

    private static void dayIndexBad(Run x) {
        x.jobs(2);
        for (int i : new int[] {-1, 2, MIN, MAX}) {
            x.day(1, i).isRefused(BAD);
            x.day(99, i).isRefused(BAD);
            x.day(0, i).isRefused(BAD);
        }
    }

    /** 0 stands ahead of all, 3 behind all, 1 and 2 side by side. */
    private static void idleRising(Run x) {
        x.jobs(4).after(1, 0);
        x.after(2, 0);
        x.after(3, 1);
        x.after(3, 2);
        x.idle(0).is(1);
        x.idle(1).is(3);
        x.idle(2).is(NONE);
        Run y = x.another().chain(10);
        for (int i = 0; i < 10; i++) {
            y.idle(i).is(i + 1);
        }
        y.idle(10).is(NONE);
    }

    private static void idleNone(Run x) {
        x.idle(0).is(NONE);
        x.jobs(1).idle(0).is(1);
        x.idle(1).is(NONE);
        x.idle(MAX).is(NONE);
        x.jobs(1).idle(0).is(NONE);
    }

    private static void idleBad(Run x) {
        x.idle(-1).is(BAD);
        x.chain(3).idle(-1).isRefused(BAD);
        x.idle(MIN).isRefused(BAD);
    }

    // ---- promises 16 and 17

    private static void noPairs(Run x) {
        x.pairs().is(0);
        x.jobs(1).pairs().is(0);
        x.another().chain(2).pairs().is(0);
        x.another().chain(10).pairs().is(0);
    }

    private static void pairsOfLooseJobs(Run x) {
        for (int n = 1; n <= 10; n++) {
            x.jobs(1).pairs().is(n / 2);
        }
    }

    /** Behind over another, too: of 0, 1, 2 none may be a pair, and 3 has one mate. */
    private static void pairsNotBehind(Run x) {
        x.chain(3).pairs().is(0);
        x.jobs(1).pairs().is(1);
        x.jobs(1).pairs().is(2);
        x.free(1, 0);
        x.jobs(1).pairs().is(3);
    }

    /** 0 with 1 would leave 2 and 3, and 3 is BEHIND 2; 0 with 2 and 1 with 3 are two pairs. */
    private static void mostPairs(Run x) {
        x.jobs(4).after(3, 0);
        x.after(3, 2);
        x.after(1, 2);
        x.pairs().is(2);
        x.least().is(2);
    }

    private static void restOfAll(Run x) {
        x.rest(0).is(0);
        x.chain(4).jobs(2).rest(0).is(4);
        x.least().is(4);
    }

    private static void restAbove(Run x) {
        x.chain(3).jobs(4);
        x.dayIs(0, 6, 1, 5, 4, 3, 2, NONE);
        x.rest(1).is(3);
        x.rest(2).is(2);
        x.rest(3).is(1);
    }

    private static void restBehindTheLast(Run x) {
        x.chain(3).rest(2).is(1);
        x.rest(3).is(0);
        x.rest(4).is(0);
        x.rest(60).is(0);
        x.rest(MAX).is(0);
    }

    private static void restBad(Run x) {
        x.rest(-1).is(BAD);
        x.chain(3).rest(-1).isRefused(BAD);
        x.rest(MIN).isRefused(BAD);
    }

    // ---- promise 18

    private static void keptEarly(Run x) {
        x.jobs(1).job(1, 1, 0);
        x.after(1, 0);
        x.kept().is(NONE);
        Run y = x.another().jobs(1);
        y.job(1, 2, 0);
        y.after(1, 0);
        y.codesAre(10, 21);
        Run z = x.another();
        for (int k = 0; k < 4; k++) {
            z.job(1, 2, 0);
        }
        z.codesAre(1, 25);
        z.job(1, 2, 0);
        z.kept().is(NONE);
    }

    private static void keptEarlyForty(Run x) {
        x.job(2, 39, 39);
        x.job(1, 40, 0);
        x.after(1, 0);
        x.kept().is(40);
        x.code(39).is(10);
        x.code(40).is(21);
        Run y = x.another();
        y.job(2, 40, 40);
        y.job(1, 40, 0);
        y.after(1, 0);
        y.kept().is(NONE);
    }

    private static void keptLate(Run x) {
        x.job(2, 1, 1);
        x.codesAre(10);
        x.job(2, 2, 40);
        x.codesAre(10, 21);
        x.job(2, 4, 40);
        x.codesAre(10, 21, EMPTY, 32);
    }

    private static void keptLateIsEarly(Run x) {
        x.chain(2).job(2, 1, 2);
        x.after(2, 1);
        x.kept().is(NONE);
        Run y = x.another().chain(2);
        y.job(2, 1, 3);
        y.after(2, 1);
        y.codesAre(10, 21, 32);
        Run z = x.another();
        z.job(2, 40, 40);
        z.job(2, 40, 40);
        z.kept().is(40);
        z.code(40).is(1);
        z.job(2, 40, 40);
        z.kept().is(NONE);
    }

    private static void keptOwned(Run x) {
        for (int bench = 0; bench <= 1; bench++) {
            Run y = x.another();
            y.job(3, bench, 0);
            y.job(3, bench, 0);
            y.codesAre(10, 21);
            y.job(3, 1 - bench, 0);
            y.codesAre(2, 21);
            y.job(3, bench, 0);
            y.codesAre(2, 21, 43);
            y.jobs(2);
            y.codesAre(2, 15, 38);
        }
        x.job(3, 0, 0);
        x.job(0, 0, 0);
        x.codesAre(1);
    }

    private static void keptIsADay(Run x) {
        x.jobs(3).codesAre(1, 32);
        x.after(1, 0);
        x.codesAre(2, 21);
        x.after(2, 1);
        x.codesAre(10, 21, 32);
        x.another().jobs(10).codesAre(1, 25, 49, 73, 97);
    }

    private static void keptEmptyHours(Run x) {
        x.job(2, 3, 3);
        x.codesAre(EMPTY, EMPTY, 10);
        x.jobs(1).after(1, 0);
        x.job(2, 6, 9);
        x.codesAre(EMPTY, EMPTY, 10, 21, EMPTY, 32);
    }

    private static void keptNone(Run x) {
        for (int k = 0; k < 3; k++) {
            x.job(1, 1, 0);
        }
        x.kept().is(NONE);
        x.undo();
        x.codesAre(1);
        x.after(1, 0);
        x.kept().is(NONE);
        x.free(1, 0);
        x.codesAre(1);
        Run y = x.another();
        y.job(1, 1, 0);
        y.job(2, 2, 3);
        y.after(0, 1);
        y.kept().is(NONE);
    }

    /** The latest BEGIN, with all others one by one behind it. */
    private static void keptLongest(Run x) {
        x.job(2, 40, 40);
        x.jobs(9);
        for (int a = 1; a < 10; a++) {
            x.after(a, a - 1);
        }
        x.kept().is(49);
        x.code(1).is(EMPTY);
        x.code(39).is(EMPTY);
        x.code(40).is(10);
        x.code(49).is(109);
        x.code(50).is(NONE);
        x.code(60).is(NONE);
        x.code(61).is(NONE);
        x.about(9, 11).is(49);
    }

    // ---- promise 19

    private static void codeOfTwo(Run x) {
        x.jobs(10).codesAre(1, 25, 49, 73, 97);
        Run y = x.another().jobs(10);
        for (int a = 1; a < 9; a++) {
            y.after(a, 0);
            y.after(a, 9);
        }
        y.codesAre(9, 13, 37, 61, 85);
    }

    private static void codeOfOne(Run x) {
        x.chain(10).codesAre(10, 21, 32, 43, 54, 65, 76, 87, 98, 109);
        Run y = x.another().jobs(9);
        y.job(2, 40, 40);
        y.kept().is(40);
        y.code(5).is(98);
        y.code(6).is(EMPTY);
        y.code(40).is(109);
    }

    private static void codeOfNone(Run x) {
        x.job(2, 2, 2);
        x.codesAre(EMPTY, 10);
        x.job(2, 4, 4);
        x.codesAre(EMPTY, 10, EMPTY, 21);
    }

    /** 0 and 1 first would be the least CODE, but a row of three waits. */
    private static void codeLeastLength(Run x) {
        x.jobs(2).chain(3).codesAre(2, 14, 54);
        Run y = x.another().jobs(2);
        y.job(1, 1, 0);
        y.job(1, 1, 0);
        y.codesAre(25, 1);
    }

    /** With a mate rather than alone, alone rather than those of greater numbers; the mate of least number. */
    private static void codeFirstHour(Run x) {
        x.jobs(3).codesAre(1, 32);
        x.after(1, 0);
        x.codesAre(2, 21);
        Run y = x.another().jobs(1);
        y.job(2, 3, 3);
        y.codesAre(10, EMPTY, 21);
        Run z = x.another();
        z.job(3, 0, 0);
        z.job(3, 0, 0);
        z.job(2, 2, 4);
        z.codesAre(10, 13);
    }

    /** JOBS that differ in one thing alone do not change places, though 0 is the lesser number. */
    private static void codeOfWhatMustComeLater(Run x) {
        x.job(2, 5, 9);
        x.job(2, 1, 9);
        x.codesAre(21, EMPTY, EMPTY, EMPTY, 10);
        Run y = x.another();
        y.job(1, 2, 0);
        y.job(1, 1, 0);
        y.job(1, 1, 0);
        y.codesAre(13, 10);
        Run z = x.another().jobs(2);
        z.after(0, 1);
        z.codesAre(21, 10);
    }

    private static void codeNextHours(Run x) {
        x.jobs(4).after(1, 0);
        x.after(2, 0);
        x.after(3, 0);
        x.codesAre(10, 13, 43);
        Run y = x.another().jobs(6);
        for (int a = 1; a < 6; a++) {
            y.after(a, 0);
        }
        y.after(3, 5);
        y.codesAre(10, 13, 49, 43);
    }

    private static void codeWithoutDay(Run x) {
        x.code(1).is(NONE);
        x.jobs(1).code(1).is(10);
        x.job(1, 1, 0);
        x.after(1, 0);
        x.code(1).is(NONE);
        x.code(2).is(NONE);
        x.code(MAX).is(NONE);
    }

    private static void codeAboveLength(Run x) {
        x.chain(3).code(3).is(32);
        for (int hour : new int[] {4, 60, 61, 62, 63, 64, MAX}) {
            x.code(hour).isRefused(NONE);
        }
        x.undo();
        x.code(2).is(21);
        x.code(3).is(NONE);
    }

    private static void codeBad(Run x) {
        x.code(0).is(BAD);
        x.jobs(3).code(0).isRefused(BAD);
        x.code(-1).isRefused(BAD);
        x.code(MIN).isRefused(BAD);
        Run y = x.another();
        y.job(1, 1, 0);
        y.jobs(1).after(0, 1);
        y.kept().is(NONE);
        y.code(0).isRefused(BAD);
    }

    // ---- promise 20

    private static void checkSixBits(Run x) {
        x.chain(10);
        x.check(Run.hours(1, 2, 3, 4, 5, 6, 7, 8, 9, 10)).is(2);
        x.check(Run.hours(54, 55, 56, 57, 58, 59, 60, 61, 62, 63)).is(2);
        x.check(Run.hours(10, 9, 8, 7, 6, 5, 4, 3, 2, 1)).is(0);
        x.another().jobs(1).check(63L).is(2);
        x.another().jobs(1).check(32L).is(2);
    }

    private static void checkNoHour(Run x) {
        x.jobs(1).check(0L).is(0);
        x.check(64L).is(0);
        x.check(Long.MIN_VALUE).is(0);
        Run y = x.another().jobs(10);
        long pairs = Run.hours(1, 1, 2, 2, 3, 3, 4, 4, 5, 5);
        y.check(pairs).is(2);
        for (int a = 0; a < 10; a++) {
            y.check(pairs & ~(63L << 6 * a)).is(0);
        }
    }

    private static void checkAbove(Run x) {
        x.jobs(1).check(1L | -1L << 6).is(2);
        x.check(1L | 1L << 6).is(2);
        x.jobs(1).check(1L << 6 | 1L).is(2);
        x.jobs(1).check(Run.hours(1, 1, 2, 1, 1, 2)).is(2);
        Run y = x.another().jobs(10);
        long pairs = Run.hours(1, 1, 2, 2, 3, 3, 4, 4, 5, 5);
        y.check(pairs | 1L << 60).is(2);
        y.check(pairs | Long.MIN_VALUE).is(2);
        y.check(pairs | 15L << 60).is(2);
        Run z = x.another();
        z.job(3, 0, 0);
        z.check(-1L).is(2);
        z.check(1L | 1L << 58).is(2);
    }

    private static void checkWithoutJobs(Run x) {
        x.check(0L).is(2);
        x.check(-1L).is(2);
        x.jobs(1).check(0L).is(0);
        x.undo();
        x.check(0L).is(2);
    }

    private static void checkTwoAtMost(Run x) {
        x.jobs(2).check(Run.hours(7, 7)).is(2);
        x.jobs(1).check(Run.hours(7, 7, 7)).is(0);
        x.check(Run.hours(7, 8, 7)).is(2);
        x.jobs(7).check(Run.hours(1, 2, 3, 4, 1, 5, 6, 7, 8, 1)).is(0);
        x.check(Run.hours(1, 2, 3, 4, 1, 5, 6, 7, 8, 2)).is(2);
    }

    private static void checkBehind(Run x) {
        x.chain(3).check(Run.hours(1, 2, 3)).is(2);
        x.check(Run.hours(1, 1, 2)).is(0);
        x.check(Run.hours(1, 2, 2)).is(0);
        x.check(Run.hours(2, 1, 3)).is(0);
        x.check(Run.hours(3, 2, 1)).is(0);
        x.check(Run.hours(2, 3, 1)).is(0);
        Run y = x.another().jobs(10);
        y.after(0, 9);
        y.check(Run.hours(2, 3, 3, 4, 4, 5, 5, 6, 6, 1)).is(2);
        y.check(Run.hours(1, 3, 3, 4, 4, 5, 5, 6, 6, 1)).is(0);
        y.check(Run.hours(1, 3, 3, 4, 4, 5, 5, 6, 6, 2)).is(0);
    }

    private static void checkAnyLength(Run x) {
        x.chain(2).check(Run.hours(1, 2)).is(2);
        x.check(Run.hours(1, 60)).is(2);
        x.check(Run.hours(30, 59)).is(2);
    }

    private static void checkEnds(Run x) {
        x.job(1, 3, 0);
        x.check(3L).is(2);
        x.check(4L).is(1);
        x.check(1L).is(2);
        Run y = x.another();
        y.job(1, 40, 0);
        y.check(40L).is(2);
        y.check(41L).is(1);
        Run z = x.another();
        z.job(2, 3, 5);
        z.check(5L).is(2);
        z.check(6L).is(1);
        z.check(63L).is(1);
    }

    private static void checkBegins(Run x) {
        x.job(2, 3, 5);
        x.check(3L).is(2);
        x.check(2L).is(1);
        x.check(1L).is(1);
        Run y = x.another();
        y.job(2, 40, 40);
        y.check(39L).is(1);
        y.check(40L).is(2);
        y.check(41L).is(1);
    }

    private static void checkBenches(Run x) {
        x.job(3, 0, 0);
        x.job(3, 0, 0);
        x.job(3, 1, 0);
        x.job(3, 1, 0);
        x.job(0, 0, 0);
        x.check(Run.hours(1, 2, 1, 2, 3)).is(2);
        x.check(Run.hours(1, 1, 2, 3, 4)).is(1);
        x.check(Run.hours(1, 2, 3, 3, 4)).is(1);
        x.check(Run.hours(1, 2, 3, 4, 1)).is(2);
        x.check(Run.hours(1, 2, 3, 4, 4)).is(2);
    }

    private static void checkNoDay(Run x) {
        x.job(1, 1, 0);
        x.job(3, 0, 0);
        x.job(3, 0, 0);
        x.after(2, 1);
        x.check(Run.hours(1, 1, 2)).is(2);
        x.check(Run.hours(2, 1, 2)).is(1);
        x.check(Run.hours(1, 2, 2)).is(0);
        x.check(Run.hours(9, 2, 1)).is(0);
        x.check(Run.hours(0, 1, 2)).is(0);
    }

    // ---- promise 21

    private static void countJobs(Run x) {
        for (int n = 0; n < 10; n++) {
            x.count(0).is(n);
            x.jobs(1);
        }
        x.count(0).is(10);
        x.job(0, 0, 0);
        x.count(0).is(10);
        x.undo();
        x.count(0).is(9);
    }

    /** All 45 waits that ten JOBS can have. */
    private static void countWaits(Run x) {
        x.jobs(10).count(1).is(0);
        int waits = 0;
        for (int a = 1; a < 10; a++) {
            for (int b = 0; b < a; b++) {
                waits++;
                x.after(a, b).is(1);
                x.count(1).is(waits);
            }
        }
        x.after(9, 0).is(0);
        x.after(0, 9).is(Run.RING);
        x.count(1).is(45);
        x.free(9, 0);
        x.count(1).is(44);
        x.undo();
        x.count(1).is(45);
        x.another().chain(3).count(1).is(2);
    }

    private static void countChanges(Run x) {
        x.count(2).is(0);
        x.jobs(2).count(2).is(2);
        for (int k = 0; k < 9; k++) {
            x.after(1, 0);
            x.free(1, 0);
        }
        x.count(2).is(20);
        x.after(1, 0);
        x.count(2).is(20);
        x.after(1, 0);
        x.count(2).is(20);
        x.undo();
        x.count(2).is(19);
        x.after(1, 0);
        x.count(2).is(20);
    }

    private static void countIdle(Run x) {
        x.count(3).is(0);
        x.jobs(1).count(3).is(1);
        x.jobs(1).count(3).is(0);
        x.jobs(1).count(3).is(1);
        x.another().chain(10).count(3).is(10);
        x.another().jobs(10).count(3).is(0);
    }

    private static void countDepth(Run x) {
        x.count(4).is(0);
        x.jobs(1).count(4).is(1);
        x.jobs(1).count(4).is(1);
        x.after(1, 0);
        x.count(4).is(2);
        x.undo();
        x.count(4).is(1);
        x.another().chain(10).count(4).is(10);
        x.another().chain(4).chain(6).count(4).is(6);
    }

    private static void countBad(Run x) {
        for (int what : new int[] {-1, 5, MIN, MAX}) {
            x.count(what).is(BAD);
        }
        x.chain(3);
        for (int what : new int[] {-1, 5, MIN, MAX}) {
            x.count(what).isRefused(BAD);
        }
    }

    private static void askingChangesNothing(Run x) {
        x.chain(3).job(2, 4, 6);
        x.after(0, 2);
        x.ring(1).changesNothing(2);
        for (int what = 0; what <= 11; what++) {
            x.about(1, what).changesNothing(new int[] {0, NONE, NONE, NONE, 1, 1, 4, 4, 2, 3, 2, 2}[what]);
        }
        x.least().changesNothing(3);
        x.day(1, 1).changesNothing(3);
        x.idle(0).changesNothing(2);
        x.pairs().changesNothing(1);
        x.rest(1).changesNothing(2);
        x.kept().changesNothing(4);
        x.code(4).changesNothing(43);
        x.check(Run.hours(1, 2, 3, 4)).changesNothing(2);
        x.count(3).changesNothing(2);
    }
}
