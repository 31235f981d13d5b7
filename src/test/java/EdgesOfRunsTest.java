/** Promises 7 to 11 and the parts 2, 4 and 5: each sentence that names an edge, by itself. */
public final class EdgesOfRunsTest {
    private EdgesOfRunsTest() {
    }

    public static void main(String[] args) {
        slip();
        run();
        spanOfRun();
        withdraw();
        swap();
        doubles();
        print();
        Due.end();
    }

    // ---- promise 7

    private static void slip() {
        Due.test("7 SLIP 0 to 9", EdgesOfRunsTest::slips);
        Due.test("7 Returns that before", EdgesOfRunsTest::slipBefore);
        Due.test("7 that of then is kept with the RUN", EdgesOfRunsTest::slipIsKept);
    }

    private static void slips() {
        Grainclock x = new Grainclock();
        Due.same("0", x.slip(0), 2);
        Due.same("9", x.slip(9), 0);
        Due.same("SLIP", x.lab(4), 9);
        Due.refusesBusy("-1", Due.BAD_ARGUMENT, y -> y.slip(-1));
        Due.refusesBusy("10", Due.BAD_ARGUMENT, y -> y.slip(10));
        Due.refusesBusy("the least", Due.BAD_ARGUMENT, y -> y.slip(Due.LEAST));
        Due.refusesBusy("the most", Due.BAD_ARGUMENT, y -> y.slip(Due.MOST));
    }

    private static void slipBefore() {
        Grainclock x = new Grainclock();
        Due.same("the first one", x.slip(9), 2);
        Due.same("another one", x.slip(9), 9);
        Due.same("the same one", x.slip(3), 9);
        Due.same("a refused one", Due.outcome(() -> x.slip(10)), Due.ARGUMENT_THROWN);
        Due.same("is not told", x.slip(0), 3);
    }

    private static void slipIsKept() {
        Grainclock x = Labs.halving();
        x.grain(16, 16, 0);
        x.pass(2);
        x.run(0, 0, 0, 0);
        x.slip(9);
        x.run(0, 0, 0, 0);
        x.slip(2);
        Due.facts("a slip of 0", Labs.ofRun(x, 0), 0, 0, 4, 12, 0, 2, 2);
        Due.facts("a slip of 9", Labs.ofRun(x, 1), 0, 0, 4, 12, 9, 1, 3000);
        x.pace(0, 3);
        x.pace(0, 2);
        Due.facts("0, behind other paces", Labs.ofRun(x, 0), 0, 0, 4, 12, 0, 2, 2);
        Due.facts("9, behind other paces", Labs.ofRun(x, 1), 0, 0, 4, 12, 9, 1, 3000);
        x.withdraw(1);
        x.slip(9);
        Due.same("CHANGED by the slip of then, 0", x.changed(0, 3), 1);
        x.run(0, 0, 0, 0);
        x.withdraw(0);
        x.slip(0);
        Due.same("CHANGED by the slip of then, 9", x.changed(0, 3), 0);
    }

    // ---- promise 8

    private static void run() {
        Due.test("8 A RUN: at most 20", EdgesOfRunsTest::twentyRuns);
        Due.test("8 at most 20, also of those that are WITHDRAWN", EdgesOfRunsTest::withdrawnRunsCount);
        Due.test("8 numbered from 0", EdgesOfRunsTest::runNumbers);
        Due.test("8 no such GRAIN", EdgesOfRunsTest::runGrains);
        Due.test("8 clock is not 0 or 1", EdgesOfRunsTest::runClocks);
        Due.test("8 mothers is -SLIP to SLIP", EdgesOfRunsTest::errorsOfMothers);
        Due.test("8 daughters is -SLIP to SLIP", EdgesOfRunsTest::errorsOfDaughters);
        Due.test("8 -SLIP to SLIP, by a SLIP of 0 and of 9", EdgesOfRunsTest::errorsOfOtherSlips);
        Due.test("8 each with an error of its own, but never below 0", EdgesOfRunsTest::neverBelowZero);
        Due.test("8 MOTHERS and DAUGHTERS of the GRAIN as they are", EdgesOfRunsTest::countedAsTheyAre);
        Due.test("8 the most that can be counted", EdgesOfRunsTest::mostCounted);
        Due.test("8 the exception that is named first", EdgesOfRunsTest::runNamesFirst);
    }

    private static void twentyRuns() {
        Grainclock x = Labs.halving();
        x.grain(64, 64, 0);
        for (int run = 0; run < 20; run++) {
            Due.same("run " + run, x.run(0, run % 2, 0, 0), run);
        }
        Due.same("the twenty-first", Due.outcome(() -> x.run(0, 0, 0, 0)), Due.STATE_THROWN);
        Due.same("RUNS as before", x.lab(2), 20);
        Due.same("the last", x.ofRun(19, 1), 1);
        Due.same("none behind it", Due.outcome(() -> x.ofRun(20, 1)), Due.INDEX_THROWN);
        Due.refusesFull("the twenty-first of a full lab", Due.BAD_STATE, y -> y.run(7, 1, 0, 0));
    }

    private static Grainclock fullAndWithdrawn() {
        Grainclock x = Labs.full();
        x.withdraw(0);
        x.withdraw(19);
        return x;
    }

    private static void withdrawnRunsCount() {
        Due.refuses("two withdrawn", EdgesOfRunsTest::fullAndWithdrawn, Due.BAD_STATE, x -> x.run(0, 0, 0, 0));
        Grainclock x = Labs.halving();
        x.grain(64, 64, 0);
        for (int run = 0; run < 20; run++) {
            Due.same("a number of its own", x.run(0, 0, 0, 0), run);
            x.withdraw(run);
        }
        Due.same("all withdrawn", Due.outcome(() -> x.run(0, 0, 0, 0)), Due.STATE_THROWN);
    }

    private static void runNumbers() {
        Grainclock x = Labs.halving();
        x.grain(8, 4, 0);
        Due.same("the first", x.run(0, 0, 0, 0), 0);
        Due.same("a refused one", Due.outcome(() -> x.run(0, 0, 1, 0)), Due.ARGUMENT_THROWN);
        Due.same("the second", x.run(0, 1, 0, 0), 1);
        Due.same("the first is asked by 0", x.ofRun(0, 2), 8);
        Due.same("the second is asked by 1", x.ofRun(1, 2), 4);
    }

    private static void runGrains() {
        Due.same("the last", Labs.busy().run(2, 0, 0, 0), 6);
        Due.refusesBusy("-1", Due.BAD_INDEX, x -> x.run(-1, 0, 0, 0));
        Due.refusesBusy("3 of 3", Due.BAD_INDEX, x -> x.run(3, 0, 0, 0));
        Due.refusesBusy("the least", Due.BAD_INDEX, x -> x.run(Due.LEAST, 0, 0, 0));
        Due.refusesBusy("the most", Due.BAD_INDEX, x -> x.run(Due.MOST, 0, 0, 0));
    }

    private static void runClocks() {
        Due.same("0", Labs.busy().run(0, 0, 0, 0), 6);
        Due.same("1", Labs.busy().run(0, 1, 0, 0), 6);
        Due.refusesBusy("-1", Due.BAD_INDEX, x -> x.run(0, -1, 0, 0));
        Due.refusesBusy("2", Due.BAD_INDEX, x -> x.run(0, 2, 0, 0));
        Due.refusesBusy("the least", Due.BAD_INDEX, x -> x.run(0, Due.LEAST, 0, 0));
        Due.refusesBusy("the most", Due.BAD_INDEX, x -> x.run(0, Due.MOST, 0, 0));
    }

    private static void errorsOfMothers() {
        Grainclock x = new Grainclock();
        x.grain(100, 100, 0);
        x.pass(1);
        Due.same("-2", x.run(0, 0, -2, 0), 0);
        Due.same("2", x.run(0, 0, 2, 0), 1);
        Due.facts("95 less 2", Labs.ofRun(x, 0), 0, 0, 93, 5);
        Due.facts("95 and 2", Labs.ofRun(x, 1), 0, 0, 97, 5);
        Due.refusesBusy("-3", Due.BAD_ARGUMENT, y -> y.run(0, 0, -3, 0));
        Due.refusesBusy("3", Due.BAD_ARGUMENT, y -> y.run(0, 0, 3, 0));
        Due.refusesBusy("the least", Due.BAD_ARGUMENT, y -> y.run(0, 0, Due.LEAST, 0));
        Due.refusesBusy("the most", Due.BAD_ARGUMENT, y -> y.run(0, 0, Due.MOST, 0));
    }

    private static void errorsOfDaughters() {
        Grainclock x = new Grainclock();
        x.grain(100, 100, 0);
        x.pass(1);
        Due.same("-2", x.run(0, 0, 0, -2), 0);
        Due.same("2", x.run(0, 0, 0, 2), 1);
        Due.facts("5 less 2", Labs.ofRun(x, 0), 0, 0, 95, 3);
        Due.facts("5 and 2", Labs.ofRun(x, 1), 0, 0, 95, 7);
        Due.refusesBusy("-3", Due.BAD_ARGUMENT, y -> y.run(0, 0, 0, -3));
        Due.refusesBusy("3", Due.BAD_ARGUMENT, y -> y.run(0, 0, 0, 3));
        Due.refusesBusy("the least", Due.BAD_ARGUMENT, y -> y.run(0, 0, 0, Due.LEAST));
        Due.refusesBusy("the most", Due.BAD_ARGUMENT, y -> y.run(0, 0, 0, Due.MOST));
    }

    private static Grainclock withSlip(int slip) {
        Grainclock x = Labs.halving();
        x.grain(64, 64, 0);
        x.pass(1);
        x.slip(slip);
        return x;
    }

    private static void errorsOfOtherSlips() {
        Due.same("0 by a slip of 0", withSlip(0).run(0, 0, 0, 0), 0);
        Due.same("-9 and 9 by a slip of 9", withSlip(9).run(0, 0, -9, 9), 0);
        Due.same("9 and -9 by a slip of 9", withSlip(9).run(0, 0, 9, -9), 0);
        for (int slip = 0; slip < 10; slip++) {
            int most = slip;
            Due.same("the most by a slip of " + slip, withSlip(slip).run(0, 0, slip, -slip), 0);
            refusesSlip(slip, "mothers above", x -> x.run(0, 0, most + 1, 0));
            refusesSlip(slip, "mothers below", x -> x.run(0, 0, -most - 1, 0));
            refusesSlip(slip, "daughters above", x -> x.run(0, 0, 0, most + 1));
            refusesSlip(slip, "daughters below", x -> x.run(0, 0, 0, -most - 1));
        }
    }

    private static void refusesSlip(int slip, String what, Due.CallOf call) {
        Due.refuses(what + " by a slip of " + slip, () -> withSlip(slip), Due.BAD_ARGUMENT, call);
    }

    private static void neverBelowZero() {
        Grainclock x = new Grainclock();
        x.pace(0, 2);
        x.grain(3, 1, 0);
        x.grain(4, 2, 0);
        x.grain(6, 0, 0);
        x.pass(1);
        x.run(0, 0, -2, -2);
        x.run(1, 0, -2, -2);
        x.run(2, 0, -2, -2);
        x.run(2, 1, -2, -2);
        x.run(2, 1, 2, 2);
        Due.facts("2 and 1 less 2", Labs.ofRun(x, 0), 0, 0, 0, 0);
        Due.facts("2 and 2 less 2", Labs.ofRun(x, 1), 1, 0, 0, 0);
        Due.facts("3 and 3 less 2", Labs.ofRun(x, 2), 2, 0, 1, 1);
        Due.facts("0 and 0 less 2", Labs.ofRun(x, 3), 2, 1, 0, 0);
        Due.facts("0 and 0 and 2", Labs.ofRun(x, 4), 2, 1, 2, 2);
        Due.facts("the grain is as it was", Labs.ofGrain(x, 0), 2, 1, 0, 1, 0, 0, 1, 0, 0, 1);
    }

    private static void countedAsTheyAre() {
        Grainclock x = new Grainclock();
        x.grain(100, 200, 0);
        x.pass(1);
        x.run(0, 0, 0, 0);
        x.run(0, 1, 0, 0);
        x.wash(0, 100);
        x.run(0, 0, 0, 0);
        x.heat(0, 100);
        x.run(0, 1, 0, 0);
        x.pass(300);
        Due.facts("the clock 0", Labs.ofRun(x, 0), 0, 0, 95, 5, 2);
        Due.facts("the clock 1", Labs.ofRun(x, 1), 0, 1, 196, 4, 2);
        Due.facts("behind washing", Labs.ofRun(x, 2), 0, 0, 0, 5, 2);
        Due.facts("behind heat", Labs.ofRun(x, 3), 0, 1, 0, 0, 2);
        Due.same("a run touches nothing", Labs.threeGrains().ofGrain(0, 8), 0);
    }

    private static void mostCounted() {
        Grainclock x = new Grainclock();
        x.slip(9);
        x.grain(9999, 9999, 0);
        x.run(0, 0, 9, 9);
        x.run(0, 1, 9, 9);
        // 10017 and 0 at first, and 9999 of 10017: 10017 9517 by a pace of 20, 10017 9817 by one of 50.
        Due.facts("by a pace of 20", Labs.ofRun(x, 0), 0, 0, 10008, 9, 9, 0, 0);
        Due.facts("by a pace of 50", Labs.ofRun(x, 1), 0, 1, 10008, 9, 9, 0, 0);
        x.pace(0, 2);
        x.pass(300);
        x.run(0, 0, -9, 9);
        Due.facts("1 less 9, and 9998 and 9", Labs.ofRun(x, 2), 0, 0, 0, 10007, 9, 11, 3000);
    }

    private static void runNamesFirst() {
        Due.refusesFull("no such grain, an error, and 20", Due.BAD_INDEX, x -> x.run(8, 0, 1, 0));
        Due.refusesFull("no such clock, an error, and 20", Due.BAD_INDEX, x -> x.run(0, 2, 0, 1));
        Due.refusesFull("no such grain, and 20", Due.BAD_INDEX, x -> x.run(-1, 0, 0, 0));
        Due.refusesFull("no such clock, and 20", Due.BAD_INDEX, x -> x.run(0, -1, 0, 0));
        Due.refusesFull("an error of mothers, and 20", Due.BAD_ARGUMENT, x -> x.run(0, 0, 1, 0));
        Due.refusesFull("an error of daughters, and 20", Due.BAD_ARGUMENT, x -> x.run(0, 0, 0, -1));
        Due.refusesBusy("no such grain, and an error", Due.BAD_INDEX, x -> x.run(3, 0, 3, 3));
        Due.refusesBusy("no such clock, and an error", Due.BAD_INDEX, x -> x.run(0, 2, -3, -3));
        Due.refusesBusy("neither grain nor clock", Due.BAD_INDEX, x -> x.run(3, 2, 0, 0));
    }

    // ---- the span of a run

    private static void spanOfRun() {
        Due.test("EARLY: a or fewer are left", EdgesOfRunsTest::earlyOrFewer);
        Due.test("LATE: a or more are left", EdgesOfRunsTest::lateOrMore);
        Due.test("EARLY is 3000, if it does not come sooner", EdgesOfRunsTest::earlyNeverComes);
        Due.test("LATE is up to 3000", EdgesOfRunsTest::lateNeverEnds);
        Due.test("EARLY: a = m + s, and b = d less s (0 at least)", EdgesOfRunsTest::earlyWithSlip);
        Due.test("LATE: a = m less s (0 at least), and b = d + s", EdgesOfRunsTest::lateWithSlip);
        Due.test("Both are more by the YEARS that went by since the RUN", EdgesOfRunsTest::yearsSinceRun);
        Due.test("more by the YEARS, beyond 3000", EdgesOfRunsTest::yearsSinceRunBeyond);
        Due.test("It stands, till it is WITHDRAWN", EdgesOfRunsTest::runStands);
    }

    private static void earlyOrFewer() {
        Grainclock x = Labs.halving();
        // 16 8 4 2 1
        Due.same("3 of 16", x.age(0, 3, 13, false), 3);
        Due.same("4 of 16", x.age(0, 4, 12, false), 2);
        Due.same("5 of 16", x.age(0, 5, 11, false), 2);
        Due.same("7 of 16", x.age(0, 7, 9, false), 2);
        Due.same("8 of 16", x.age(0, 8, 8, false), 1);
        Due.same("15 of 16", x.age(0, 15, 1, false), 1);
        Due.same("16 of 16", x.age(0, 16, 0, false), 0);
        Due.same("1 of 16", x.age(0, 1, 15, false), 4);
    }

    private static void lateOrMore() {
        Grainclock x = Labs.halving();
        Due.same("2 of 16", x.age(0, 2, 14, true), 3);
        Due.same("3 of 16", x.age(0, 3, 13, true), 2);
        Due.same("4 of 16", x.age(0, 4, 12, true), 2);
        Due.same("5 of 16", x.age(0, 5, 11, true), 1);
        Due.same("8 of 16", x.age(0, 8, 8, true), 1);
        Due.same("9 of 16", x.age(0, 9, 7, true), 0);
        Due.same("16 of 16", x.age(0, 16, 0, true), 0);
    }

    private static void earlyNeverComes() {
        Grainclock x = new Grainclock();
        Due.same("19 of 20, a year", x.age(0, 19, 1, false), 1);
        Due.same("18 of 20, never", x.age(0, 18, 2, false), 3000);
        Due.same("18 of 19, never", x.age(0, 18, 1, false), 3000);
        Due.same("none of 1, never", x.age(0, 0, 1, false), 3000);
        Due.same("none of 9999, never", x.age(1, 0, 9999, false), 3000);
        Due.same("none of none, at once", x.age(0, 0, 0, false), 0);
        Grainclock y = Labs.halving();
        y.grain(5, 5, 0);
        y.pass(1);
        y.wash(0, 100);
        y.run(0, 0, 0, 0);
        Due.facts("a run of 0 and 2", Labs.ofRun(y, 0), 0, 0, 0, 2, 0, 3000, 3000);
        Due.same("EARLY of the grain", y.span(0, 0, 0), 3000);
    }

    private static void lateNeverEnds() {
        Grainclock x = new Grainclock();
        Due.same("19 of 19", x.age(0, 19, 0, true), 3000);
        Due.same("19 of 9999", x.age(0, 19, 9980, true), 3000);
        Due.same("20 of 20, not a year", x.age(0, 20, 0, true), 0);
        Due.same("20 of 21, a year", x.age(0, 20, 1, true), 1);
        Due.same("49 by a pace of 50", x.age(1, 49, 0, true), 3000);
        Due.same("50 by a pace of 50", x.age(1, 50, 0, true), 0);
        Due.same("none", x.age(0, 0, 9999, true), 3000);
        Due.same("none of none", x.age(1, 0, 0, true), 3000);
    }

    /** A grain that is 4 and 3 of 7 by the clock 0, and 16 and 16 of 32 by the clock 1. */
    private static Grainclock fourAndThree() {
        Grainclock x = Labs.halving();
        x.grain(7, 32, 0);
        x.pass(1);
        x.slip(2);
        return x;
    }

    private static void earlyWithSlip() {
        Grainclock x = fourAndThree();
        x.run(0, 0, 0, 0);
        x.run(0, 0, 0, -1);
        x.run(0, 0, 0, -2);
        x.run(0, 0, -2, 2);
        Due.same("6 of 7", x.ofRun(0, 5), 1);
        Due.same("6 of 6, as d is the slip", x.ofRun(1, 5), 0);
        Due.same("6 of 6, as d is below the slip", x.ofRun(2, 5), 0);
        // 7 4
        Due.same("4 of 7", x.ofRun(3, 5), 1);
        x.slip(9);
        x.run(0, 1, 0, 0);
        // 32 16
        Due.facts("25 of 32", Labs.ofRun(x, 4), 0, 1, 16, 16, 9, 1);
        x.run(0, 1, -9, 0);
        Due.facts("16 of 23", Labs.ofRun(x, 5), 0, 1, 7, 16, 9, 1);
        x.run(0, 1, -9, 9);
        Due.facts("16 of 32", Labs.ofRun(x, 6), 0, 1, 7, 25, 9, 1);
        x.slip(8);
        x.run(0, 1, -8, 8);
        Due.facts("16 of 32 by a slip of 8", Labs.ofRun(x, 7), 0, 1, 8, 24, 8, 1);
        x.slip(3);
        x.run(0, 1, -3, 3);
        Due.facts("16 of 32 by a slip of 3", Labs.ofRun(x, 8), 0, 1, 13, 19, 3, 1);
    }

    private static void lateWithSlip() {
        Grainclock x = fourAndThree();
        x.run(0, 0, 0, 0);
        x.run(0, 0, -1, 0);
        x.run(0, 0, -2, 0);
        x.run(0, 0, 2, -2);
        // 7 4 2 1
        Due.same("2 of 7", x.ofRun(0, 6), 2);
        Due.same("1 of 6", x.ofRun(1, 6), 3000);
        Due.same("none of 5", x.ofRun(2, 6), 3000);
        Due.same("4 of 7", x.ofRun(3, 6), 1);
        x.slip(9);
        x.run(0, 1, 0, 0);
        // 32 16 8 4
        Due.facts("7 of 32", Labs.ofRun(x, 4), 0, 1, 16, 16, 9, 1, 2);
        x.run(0, 1, -9, 0);
        Due.facts("none of 25, below the slip", Labs.ofRun(x, 5), 0, 1, 7, 16, 9, 1, 3000);
        x.run(0, 1, 1, -1);
        Due.facts("8 of 32", Labs.ofRun(x, 6), 0, 1, 17, 15, 9, 1, 2);
        x.run(0, 1, 2, -2);
        Due.facts("9 of 32", Labs.ofRun(x, 7), 0, 1, 18, 14, 9, 1, 1);
        x.run(0, 1, -7, 7);
        Due.facts("none of 32, as m is the slip", Labs.ofRun(x, 8), 0, 1, 9, 23, 9, 1, 3000);
    }

    private static void yearsSinceRun() {
        Grainclock x = Labs.halving();
        x.grain(64, 64, 0);
        x.pass(2);
        x.run(0, 0, 0, 0);
        Due.facts("at once", Labs.ofRun(x, 0), 0, 0, 16, 48, 0, 2, 2);
        x.pass(1);
        x.run(0, 0, 0, 0);
        Due.facts("a year later", Labs.ofRun(x, 0), 0, 0, 16, 48, 0, 3, 3);
        Due.facts("the later one", Labs.ofRun(x, 1), 0, 0, 8, 56, 0, 3, 3);
        x.withdraw(0);
        x.pass(300);
        Due.facts("also when withdrawn", Labs.ofRun(x, 0), 0, 0, 16, 48, 0, 303, 303, 0);
        Due.facts("the years since alone", Labs.ofRun(x, 1), 0, 0, 8, 56, 0, 303, 303, 1);
        x.pace(0, 3);
        // 64 43 29 20 14 and 64 43 29 20 14 10 7
        Due.facts("by another pace", Labs.ofRun(x, 0), 0, 0, 16, 48, 0, 305, 304, 0);
        Due.facts("by another pace too", Labs.ofRun(x, 1), 0, 0, 8, 56, 0, 306, 305, 1);
    }

    private static void yearsSinceRunBeyond() {
        Grainclock x = Labs.old();
        Due.facts("3000 years", Labs.ofRun(x, 0), 0, 0, 16, 1008, 0, 3000, 3000, 1);
        Grainclock y = Labs.halving();
        y.grain(3, 3, 0);
        y.pass(1);
        y.wash(0, 100);
        y.run(0, 0, 0, 0);
        for (int k = 0; k < 9; k++) {
            y.pass(300);
        }
        y.pass(299);
        Due.facts("3000 and 2999", Labs.ofRun(y, 0), 0, 0, 0, 1, 0, 5999, 5999, 1);
        Due.same("EARLY of the grain", y.span(0, -1, 0), 5999);
        Due.same("LATE of the grain is 3000 at most", y.span(0, -1, 1), 3000);
    }

    private static void runStands() {
        Grainclock x = Labs.threeGrains();
        Due.same("at first", x.ofRun(0, 7), 1);
        x.swap(0, 4);
        x.pace(0, 200);
        x.wash(0, 100);
        x.pass(300);
        Due.same("with another label, pace and years", x.ofRun(0, 7), 1);
        x.withdraw(0);
        Due.same("withdrawn", x.ofRun(0, 7), 0);
        x.pace(0, 2);
        x.swap(0, 4);
        Due.same("for ever", x.ofRun(0, 7), 0);
        Due.same("the other ones stand", x.lab(2), 5);
    }

    // ---- promise 9

    private static void withdraw() {
        Due.test("9 no such RUN", EdgesOfRunsTest::withdrawRuns);
        Due.test("9 if it is WITHDRAWN", EdgesOfRunsTest::withdrawTwice);
        Due.test("9 PRINTS that do not STAND any more by that: none", EdgesOfRunsTest::noneFalls);
        Due.test("9 PRINTS that do not STAND any more by that: by chain", EdgesOfRunsTest::chainFalls);
        Due.test("9 PRINTS that fell before do not count", EdgesOfRunsTest::fallenBefore);
        Due.test("9 what is withdrawn tells nothing of its LABEL", EdgesOfRunsTest::withdrawnTellsNothing);
    }

    private static void withdrawRuns() {
        Due.same("the last of 6", Labs.busy().withdraw(5), 1);
        Due.same("the last of 20", Labs.full().withdraw(19), 0);
        Due.refusesBusy("-1", Due.BAD_INDEX, x -> x.withdraw(-1));
        Due.refusesBusy("6 of 6", Due.BAD_INDEX, x -> x.withdraw(6));
        Due.refusesBusy("the least", Due.BAD_INDEX, x -> x.withdraw(Due.LEAST));
        Due.refusesBusy("the most", Due.BAD_INDEX, x -> x.withdraw(Due.MOST));
        Due.refusesFull("20 of 20", Due.BAD_INDEX, x -> x.withdraw(20));
    }

    private static void withdrawTwice() {
        Due.refusesBusy("run 3", Due.BAD_STATE, x -> x.withdraw(3));
        Due.refuses("run 0", EdgesOfRunsTest::fullAndWithdrawn, Due.BAD_STATE, x -> x.withdraw(0));
        Due.refuses("run 19", EdgesOfRunsTest::fullAndWithdrawn, Due.BAD_STATE, x -> x.withdraw(19));
        Grainclock x = Labs.threeGrains();
        Due.same("once", x.withdraw(2), 0);
        Due.same("twice", Due.outcome(() -> x.withdraw(2)), Due.STATE_THROWN);
        Due.same("another one", x.withdraw(3), 0);
    }

    private static void noneFalls() {
        Due.same("without a print", Labs.threeGrains().withdraw(0), 0);
        Grainclock x = Labs.busy();
        Due.same("no print of that run", x.withdraw(1), 0);
        Due.same("PRINTS that STAND", x.lab(3), 2);
    }

    private static void chainFalls() {
        Grainclock x = Labs.full();
        Due.same("the topmost of 10", x.withdraw(9), 1);
        Due.same("the one below", x.withdraw(8), 1);
        Due.same("from the fifth", x.withdraw(4), 4);
        Due.same("PRINTS that STAND", x.lab(3), 4);
        Due.same("all that are left", x.withdraw(0), 4);
        Due.same("none is left", x.lab(3), 0);
        Due.same("all 10 at once", Labs.full().withdraw(0), 10);
        Grainclock y = Labs.threeGrains();
        y.print(0, -1);
        y.print(0, 0);
        y.print(1, 0);
        y.print(0, -1);
        y.print(2, -1);
        Due.same("each once, though it stands on a fallen one too", y.withdraw(0), 4);
        Due.same("PRINTS that STAND of these", y.lab(3), 1);
    }

    private static void fallenBefore() {
        Grainclock x = Labs.threeGrains();
        x.print(0, -1);
        x.print(1, 0);
        x.print(2, 1);
        x.print(1, -1);
        Due.same("the lowest", x.withdraw(0), 3);
        Due.same("one that fell, and one that stood", x.withdraw(1), 1);
        Due.same("one that fell", x.withdraw(2), 0);
        Grainclock y = Labs.threeGrains();
        y.print(0, -1);
        y.print(1, 0);
        y.pace(0, 3);
        Due.same("fallen by the pace", y.withdraw(0), 0);
        y.pace(0, 2);
        Due.same("they do not come back", y.lab(3), 0);
        Grainclock z = Labs.threeGrains();
        z.print(0, -1);
        z.print(1, 0);
        z.pace(0, 3);
        Due.same("fallen by what is below", z.withdraw(1), 0);
        z.pace(0, 2);
        Due.same("what is below stands again", z.lab(3), 1);
    }

    private static void withdrawnTellsNothing() {
        Grainclock x = Labs.threeGrains();
        x.swap(0, 4);
        Due.facts("before", new int[] {x.lab(2), x.lab(5), x.lab(6), x.lab(7)}, 6, 2, 2, 2);
        x.withdraw(4);
        Due.facts("behind it", new int[] {x.lab(2), x.lab(5), x.lab(6), x.lab(7)}, 5, 1, 1, 1);
        Due.same("RUNS that stand with that LABEL", x.ofGrain(0, 9), 1);
        Due.facts("the SPAN by its CLOCK", Labs.span(x, 0, 0), 0, 3000, 0);
        Due.facts("the SPAN by both", Labs.span(x, 0, -1), 6, 6, 0);
        Due.same("it is not CHANGED", x.changed(0, 3), 2);
        x.withdraw(1);
        Due.facts("without a run", Labs.span(x, 0, -1), 0, 3000, 0);
    }

    // ---- promise 10

    private static void swap() {
        Due.test("10 no such RUN, of one of both", EdgesOfRunsTest::swapRuns);
        Due.test("10 both are the same", EdgesOfRunsTest::swapOfSame);
        Due.test("10 the exception that is named first", EdgesOfRunsTest::swapNamesFirst);
        Due.test("10 each gets the LABEL of the other one", EdgesOfRunsTest::swapLabels);
        Due.test("10 of a RUN that is WITHDRAWN", EdgesOfRunsTest::swapWithdrawn);
        Due.test("10 of two RUNS with one LABEL", EdgesOfRunsTest::swapOneLabel);
    }

    private static void swapRuns() {
        Due.same("0 and the last", Labs.threeGrains().swap(0, 5), 2);
        Due.same("the last and 0", Labs.threeGrains().swap(5, 0), 2);
        Due.refusesBusy("-1, first", Due.BAD_INDEX, x -> x.swap(-1, 0));
        Due.refusesBusy("-1, second", Due.BAD_INDEX, x -> x.swap(0, -1));
        Due.refusesBusy("6 of 6, first", Due.BAD_INDEX, x -> x.swap(6, 0));
        Due.refusesBusy("6 of 6, second", Due.BAD_INDEX, x -> x.swap(0, 6));
        Due.refusesBusy("the least, first", Due.BAD_INDEX, x -> x.swap(Due.LEAST, 0));
        Due.refusesBusy("the most, second", Due.BAD_INDEX, x -> x.swap(0, Due.MOST));
        Due.refusesBusy("both", Due.BAD_INDEX, x -> x.swap(-1, 6));
        Due.refusesFull("20 of 20", Due.BAD_INDEX, x -> x.swap(19, 20));
    }

    private static void swapOfSame() {
        Due.refusesBusy("0", Due.BAD_ARGUMENT, x -> x.swap(0, 0));
        Due.refusesBusy("5", Due.BAD_ARGUMENT, x -> x.swap(5, 5));
        Due.refusesBusy("one that is withdrawn", Due.BAD_ARGUMENT, x -> x.swap(3, 3));
        Due.refusesFull("19", Due.BAD_ARGUMENT, x -> x.swap(19, 19));
    }

    private static void swapNamesFirst() {
        Due.refusesBusy("-1 twice", Due.BAD_INDEX, x -> x.swap(-1, -1));
        Due.refusesBusy("6 twice", Due.BAD_INDEX, x -> x.swap(6, 6));
        Due.refusesBusy("the most twice", Due.BAD_INDEX, x -> x.swap(Due.MOST, Due.MOST));
    }

    private static void swapLabels() {
        Grainclock x = Labs.threeGrains();
        x.swap(1, 4);
        Due.facts("the first", Labs.ofRun(x, 1), 2, 1, 16, 1008, 0, 6, 6, 1);
        Due.facts("the second", Labs.ofRun(x, 4), 0, 0, 32, 32, 0, 1, 1, 1);
        Due.same("another one", x.ofRun(0, 0), 0);
        x.swap(4, 2);
        Due.same("on to a third", x.ofRun(2, 0), 0);
        Due.same("back to its own at last", x.swap(1, 2), 2);
        Due.same("label of 1", x.ofRun(1, 0), 0);
        Due.same("label of 2", x.ofRun(2, 0), 2);
        Due.same("label of 4", x.ofRun(4, 0), 1);
    }

    private static void swapWithdrawn() {
        Grainclock x = Labs.threeGrains();
        x.withdraw(0);
        Due.same("no DOUBLES by what does not stand", x.swap(0, 4), 1);
        Due.same("label of 0", x.ofRun(0, 0), 2);
        Due.same("label of 4", x.ofRun(4, 0), 0);
        x.withdraw(4);
        Due.same("both withdrawn", x.swap(4, 0), 0);
        Due.same("label of 0 again", x.ofRun(0, 0), 0);
        Due.same("RUNS that stand with that LABEL", x.ofGrain(0, 9), 1);
    }

    private static void swapOneLabel() {
        Grainclock x = Labs.threeGrains();
        long before = x.digest();
        Due.same("2 and 3", x.swap(2, 3), 0);
        Due.same("changes nothing", x.digest(), before);
    }

    // ---- doubles

    private static void doubles() {
        Due.test("DOUBLES: EARLY of one is above LATE of the other one", EdgesOfRunsTest::doublesEdge);
        Due.test("DOUBLES: SPANS that hold one another meet", EdgesOfRunsTest::doublesWithin);
        Due.test("DOUBLES: with one LABEL (of any CLOCKS)", EdgesOfRunsTest::doublesOfClocks);
        Due.test("DOUBLES: counted by pairs", EdgesOfRunsTest::doublesByPairs);
        Due.test("DOUBLES: as many as can be", EdgesOfRunsTest::mostDoubles);
        Due.test("DOUBLES: none of one RUN", EdgesOfRunsTest::doublesOfOne);
    }

    /** Runs 0 and 3 of 3 years on grain 0, run 1 of 2 to 3 and run 2 of 2 years on grain 1. */
    private static Grainclock twoAndThree() {
        Grainclock x = Labs.halving();
        x.grain(64, 0, 0);
        x.pass(1);
        x.grain(16, 0, 0);
        x.pass(2);
        x.run(0, 0, 0, 0);
        x.slip(2);
        x.run(1, 0, 0, 0);
        x.slip(0);
        x.run(1, 0, 0, 0);
        x.run(0, 0, 0, 0);
        return x;
    }

    private static void doublesEdge() {
        Grainclock x = twoAndThree();
        Due.facts("3 to 3", Labs.ofRun(x, 0), 0, 0, 8, 56, 0, 3, 3);
        Due.facts("2 to 3", Labs.ofRun(x, 1), 1, 0, 4, 12, 2, 2, 3);
        Due.facts("2 to 2", Labs.ofRun(x, 2), 1, 0, 4, 12, 0, 2, 2);
        Due.same("at first", x.lab(5), 0);
        x.withdraw(2);
        Due.same("3 to 3 and 2 to 3 meet", x.swap(1, 3), 0);
        Grainclock y = twoAndThree();
        y.withdraw(1);
        Due.same("3 to 3 and 2 to 2 do not meet", y.swap(2, 3), 1);
        Grainclock z = twoAndThree();
        Due.same("2 to 2 and 3 to 3 do not meet", z.swap(1, 3), 1);
        Due.same("all meet", z.swap(2, 0), 0);
    }

    /** Runs of 2 to 2, 2 to 3 and 1 to 3000 years of one grain, in the order of these slips. */
    private static Grainclock withSlips(int... slips) {
        Grainclock x = Labs.halving();
        x.grain(16, 16, 0);
        x.pass(2);
        for (int slip : slips) {
            x.slip(slip);
            x.run(0, 0, 0, 0);
        }
        return x;
    }

    private static void doublesWithin() {
        Grainclock x = withSlips(0, 2, 9);
        Due.facts("2 to 2", Labs.ofRun(x, 0), 0, 0, 4, 12, 0, 2, 2);
        Due.facts("2 to 3", Labs.ofRun(x, 1), 0, 0, 4, 12, 2, 2, 3);
        Due.facts("1 to 3000", Labs.ofRun(x, 2), 0, 0, 4, 12, 9, 1, 3000);
        Due.same("wider and wider", x.lab(5), 0);
        Due.same("narrower and narrower", withSlips(9, 2, 0).lab(5), 0);
        Due.same("the widest between", withSlips(0, 9, 2).lab(5), 0);
        Due.same("the same twice", withSlips(0, 0, 9, 9).lab(5), 0);
    }

    private static void doublesOfClocks() {
        Due.same("of two labels", Labs.threeGrains().lab(5), 0);
        Grainclock x = Labs.threeGrains();
        Due.same("of one label and both clocks", x.swap(0, 4), 2);
        x.withdraw(1);
        Due.same("the other pair", x.lab(5), 1);
        Grainclock y = Labs.threeGrains();
        Due.same("of one label and one clock", y.swap(1, 4), 2);
        y.withdraw(1);
        Due.same("the other pair of it", y.lab(5), 1);
    }

    private static void doublesByPairs() {
        Grainclock x = Labs.halving();
        x.grain(1024, 0, 0);
        x.pass(3);
        x.run(0, 0, 0, 0);
        x.run(0, 0, 0, 0);
        x.heat(0, 100);
        x.run(0, 0, 0, 0);
        Due.same("two of 3 years and one of none", x.lab(5), 2);
        x.run(0, 0, 0, 0);
        Due.same("two and two", x.lab(5), 4);
        x.run(0, 0, 0, 0);
        Due.same("two and three", x.lab(5), 6);
        x.withdraw(0);
        Due.same("one and three", x.lab(5), 3);
        x.withdraw(1);
        Due.same("three alone", x.lab(5), 0);
    }

    /** 20 runs of one grain, most of other years than the others. */
    private static Grainclock allApart() {
        Grainclock x = Labs.halving();
        x.grain(2048, 2048, 0);
        for (int pair = 0; pair < 10; pair++) {
            x.run(0, 0, 0, 0);
            x.heat(0, 100);
            x.wash(0, 1);
            x.run(0, 1, 0, 0);
            x.pass(1);
        }
        return x;
    }

    private static void mostDoubles() {
        Grainclock x = Labs.halving();
        x.grain(0, 1024, 0);
        x.pass(3);
        for (int run = 0; run < 20; run++) {
            x.run(0, 1, 0, 0);
        }
        Due.same("20 RUNS of 3 years", x.lab(5), 0);
        x.pace(1, 3);
        // 1024 683 456 304 203 136 91
        Due.facts("EARLY is above LATE", Labs.ofRun(x, 0), 0, 1, 128, 896, 0, 6, 5);
        Due.same("20 RUNS that meet none, nor one another", x.lab(5), 190);
        x.withdraw(19);
        Due.same("19 of these", x.lab(5), 171);
        Grainclock y = allApart();
        int[] early = new int[20];
        int[] late = new int[20];
        int apart = 0;
        for (int run = 0; run < 20; run++) {
            early[run] = y.ofRun(run, 5);
            late[run] = y.ofRun(run, 6);
            for (int other = 0; other < run; other++) {
                apart += early[run] > late[other] || early[other] > late[run] ? 1 : 0;
            }
        }
        Due.same("all pairs that do not meet", y.lab(5), apart);
        Due.same("these are most of them", apart > 95, true);
    }

    private static void doublesOfOne() {
        Grainclock x = Labs.threeGrains();
        x.pace(0, 3);
        Due.facts("EARLY is above LATE", Labs.ofRun(x, 4), 2, 0, 32, 32, 0, 2, 1);
        x.withdraw(5);
        x.withdraw(3);
        x.withdraw(2);
        x.withdraw(1);
        x.withdraw(0);
        Due.same("it is no double of itself", x.lab(5), 0);
        Due.same("though its GRAIN is in QUARREL", x.lab(6), 1);
    }

    // ---- promise 11

    private static void print() {
        Due.test("11 PRINTS: at most 10, numbered from 0", EdgesOfRunsTest::tenPrints);
        Due.test("11 no such RUN", EdgesOfRunsTest::printRuns);
        Due.test("11 on is neither NONE nor a PRINT that there is", EdgesOfRunsTest::printsOn);
        Due.test("11 the RUN is WITHDRAWN", EdgesOfRunsTest::printOfWithdrawn);
        Due.test("11 that PRINT does not STAND", EdgesOfRunsTest::printOnFallen);
        Due.test("11 the exception that is named first", EdgesOfRunsTest::printNamesFirst);
        Due.test("11 STANDS, as long as its RUN stands (with any LABEL)", EdgesOfRunsTest::printStandsByRun);
        Due.test("11 the PACE is the same again or still", EdgesOfRunsTest::printStandsByPace);
        Due.test("11 and the PRINT on which it stands STANDS", EdgesOfRunsTest::printStandsByChain);
    }

    private static void tenPrints() {
        Grainclock x = Labs.threeGrains();
        for (int print = 0; print < 10; print++) {
            Due.same("print " + print, x.print(print % 6, -1), print);
        }
        Due.same("the eleventh", Due.outcome(() -> x.print(0, -1)), Due.STATE_THROWN);
        Due.same("PRINTS as before", x.lab(3), 10);
        Due.same("none behind the last", Due.outcome(() -> x.ofPrint(10, 0)), Due.INDEX_THROWN);
        Due.refusesFull("the eleventh on none", Due.BAD_STATE, y -> y.print(19, -1));
        Due.refusesFull("the eleventh on the last", Due.BAD_STATE, y -> y.print(0, 9));
        Due.refuses("though all fell", EdgesOfRunsTest::fullAndWithdrawn, Due.BAD_STATE, y -> y.print(1, -1));
        Grainclock z = Labs.threeGrains();
        Due.same("a refused one", Due.outcome(() -> z.print(0, 0)), Due.INDEX_THROWN);
        Due.same("takes no number", z.print(0, -1), 0);
    }

    private static void printRuns() {
        Due.same("the last", Labs.threeGrains().print(5, -1), 0);
        Due.refusesBusy("-1", Due.BAD_INDEX, x -> x.print(-1, -1));
        Due.refusesBusy("6 of 6", Due.BAD_INDEX, x -> x.print(6, -1));
        Due.refusesBusy("the least", Due.BAD_INDEX, x -> x.print(Due.LEAST, -1));
        Due.refusesBusy("the most", Due.BAD_INDEX, x -> x.print(Due.MOST, -1));
    }

    private static void printsOn() {
        Due.same("NONE", Labs.busy().print(0, -1), 3);
        Due.same("the first", Labs.busy().print(0, 0), 3);
        Due.same("the last", Labs.busy().print(0, 2), 3);
        Due.refusesBusy("-2", Due.BAD_INDEX, x -> x.print(0, -2));
        Due.refusesBusy("3 of 3, its own number", Due.BAD_INDEX, x -> x.print(0, 3));
        Due.refusesBusy("the least", Due.BAD_INDEX, x -> x.print(0, Due.LEAST));
        Due.refusesBusy("the most", Due.BAD_INDEX, x -> x.print(0, Due.MOST));
        Due.refuses("0 of none", Labs::threeGrains, Due.BAD_INDEX, x -> x.print(0, 0));
    }

    private static void printOfWithdrawn() {
        Due.refusesBusy("on none", Due.BAD_STATE, x -> x.print(3, -1));
        Due.refusesBusy("on one that stands", Due.BAD_STATE, x -> x.print(3, 0));
        Due.refusesBusy("on one that fell", Due.BAD_STATE, x -> x.print(3, 1));
    }

    private static Grainclock fallenByPace() {
        Grainclock x = Labs.threeGrains();
        x.print(0, -1);
        x.print(1, 0);
        x.pace(0, 3);
        return x;
    }

    private static void printOnFallen() {
        Due.refusesBusy("its run is withdrawn", Due.BAD_STATE, x -> x.print(0, 1));
        Due.refuses("another pace", EdgesOfRunsTest::fallenByPace, Due.BAD_STATE, x -> x.print(0, 0));
        Due.refuses("by the chain", EdgesOfRunsTest::fallenByPace, Due.BAD_STATE, x -> x.print(1, 1));
        Due.same("on none by the new pace", fallenByPace().print(0, -1), 2);
        Grainclock x = fallenByPace();
        x.pace(0, 2);
        Due.same("the same pace again", x.print(0, 1), 2);
        Due.same("how many it stands on", x.ofPrint(2, 4), 2);
    }

    private static void printNamesFirst() {
        Due.refusesFull("no such run, and 10", Due.BAD_INDEX, x -> x.print(20, -1));
        Due.refusesFull("no such print, and 10", Due.BAD_INDEX, x -> x.print(0, 10));
        Due.refusesFull("on -2, and 10", Due.BAD_INDEX, x -> x.print(0, -2));
        Due.refusesBusy("withdrawn, and no such print", Due.BAD_INDEX, x -> x.print(3, 3));
        Due.refusesBusy("no such run, and a fallen print", Due.BAD_INDEX, x -> x.print(6, 1));
        Due.refusesBusy("neither", Due.BAD_INDEX, x -> x.print(6, 3));
    }

    private static void printStandsByRun() {
        Grainclock x = Labs.threeGrains();
        x.print(0, -1);
        x.swap(0, 5);
        Due.same("with any label", x.ofPrint(0, 3), 1);
        x.wash(0, 100);
        x.pass(300);
        x.slip(9);
        Due.same("with all else that is done", x.ofPrint(0, 3), 1);
        x.withdraw(5);
        Due.same("another run is withdrawn", x.ofPrint(0, 3), 1);
        x.withdraw(0);
        Due.same("withdrawn", x.ofPrint(0, 3), 0);
    }

    private static void printStandsByPace() {
        Grainclock x = Labs.threeGrains();
        x.print(0, -1);
        x.print(1, -1);
        x.pace(0, 2);
        Due.facts("the same still", new int[] {x.ofPrint(0, 3), x.ofPrint(1, 3)}, 1, 1);
        x.pace(0, 3);
        Due.facts("another one of the clock 0", new int[] {x.ofPrint(0, 3), x.ofPrint(1, 3)}, 0, 1);
        x.pace(1, 3);
        Due.facts("another one of both", new int[] {x.ofPrint(0, 3), x.ofPrint(1, 3)}, 0, 0);
        x.pace(0, 2);
        Due.facts("the same again of the clock 0", new int[] {x.ofPrint(0, 3), x.ofPrint(1, 3)}, 1, 0);
        Due.same("PACE as it was", x.ofPrint(1, 1), 2);
        Due.same("PRINTS that STAND", x.lab(3), 1);
        x.pace(0, 3);
        x.withdraw(0);
        x.pace(0, 2);
        Due.same("the same again, of a run that fell", x.ofPrint(0, 3), 0);
    }

    private static void printStandsByChain() {
        Grainclock x = Labs.threeGrains();
        x.print(0, -1);
        x.print(1, 0);
        x.print(3, 1);
        x.pace(0, 3);
        Due.facts("all of the chain", new int[] {x.ofPrint(0, 3), x.ofPrint(1, 3), x.ofPrint(2, 3)}, 0, 0, 0);
        x.pace(0, 2);
        Due.facts("and back", new int[] {x.ofPrint(0, 3), x.ofPrint(1, 3), x.ofPrint(2, 3)}, 1, 1, 1);
        x.withdraw(1);
        Due.facts("the middle one", new int[] {x.ofPrint(0, 3), x.ofPrint(1, 3), x.ofPrint(2, 3)}, 1, 0, 0);
        Grainclock y = Labs.full();
        y.pace(1, 3);
        // Runs 8 and 9 alone are of the clock 1.
        Due.facts("of 10", new int[] {y.ofPrint(7, 3), y.ofPrint(8, 3), y.ofPrint(9, 3), y.lab(3)}, 1, 0, 0, 8);
        y.pace(1, 2);
        y.pace(0, 3);
        Due.same("of 10, from the lowest", y.lab(3), 0);
    }
}
