/** Promises 12 to 18, and the spans of the parts 2 and 3: each sentence that names an edge, by itself. */
public final class EdgesOfAnswersTest {
    private EdgesOfAnswersTest() {
    }

    public static void main(String[] args) {
        ofGrain();
        ofRun();
        span();
        narrowed();
        ofPrint();
        lab();
        text();
        Due.end();
    }

    // ---- promise 12

    private static void ofGrain() {
        Due.test("12 no such GRAIN", EdgesOfAnswersTest::ofGrainGrains);
        Due.test("12 what is not 0 to 9", EdgesOfAnswersTest::ofGrainWhats);
        Due.test("12 the exception that is named first", EdgesOfAnswersTest::ofGrainNamesFirst);
        Due.test("12 each of 0 to 9", EdgesOfAnswersTest::ofGrainEach);
        Due.test("12 8: 1 if it was TOUCHED, otherwise 0", EdgesOfAnswersTest::ofGrainTouched);
        Due.test("12 9: RUNS that stand with that LABEL", EdgesOfAnswersTest::ofGrainRuns);
    }

    private static void ofGrainGrains() {
        Due.same("0 of 8", Labs.full().ofGrain(0, 6), 8);
        Due.same("7 of 8", Labs.full().ofGrain(7, 6), 1);
        Due.refusesBusy("-1", Due.BAD_INDEX, x -> x.ofGrain(-1, 0));
        Due.refusesBusy("3 of 3", Due.BAD_INDEX, x -> x.ofGrain(3, 0));
        Due.refusesBusy("the least", Due.BAD_INDEX, x -> x.ofGrain(Due.LEAST, 0));
        Due.refusesBusy("the most", Due.BAD_INDEX, x -> x.ofGrain(Due.MOST, 0));
        Due.refusesFull("8 of 8", Due.BAD_INDEX, x -> x.ofGrain(8, 0));
    }

    private static void ofGrainWhats() {
        Due.same("0", Labs.busy().ofGrain(1, 0), 64);
        Due.same("9", Labs.busy().ofGrain(1, 9), 1);
        Due.refusesBusy("-1", Due.BAD_ARGUMENT, x -> x.ofGrain(0, -1));
        Due.refusesBusy("10", Due.BAD_ARGUMENT, x -> x.ofGrain(0, 10));
        Due.refusesBusy("the least", Due.BAD_ARGUMENT, x -> x.ofGrain(0, Due.LEAST));
        Due.refusesBusy("the most", Due.BAD_ARGUMENT, x -> x.ofGrain(0, Due.MOST));
    }

    private static void ofGrainNamesFirst() {
        Due.refusesBusy("-1, asked -1", Due.BAD_INDEX, x -> x.ofGrain(-1, -1));
        Due.refusesBusy("3, asked 10", Due.BAD_INDEX, x -> x.ofGrain(3, 10));
    }

    private static void ofGrainEach() {
        Grainclock x = new Grainclock();
        x.pass(4);
        x.grain(2000, 5000, 3);
        x.pass(2);
        // 2000 1900 1805 and 5000 4900 4802
        Due.facts("two years old", Labs.ofGrain(x, 0), 1805, 195, 0, 4802, 198, 0, 2, 3, 0, 0);
        x.heat(0, 10);
        Due.facts("behind heat", Labs.ofGrain(x, 0), 1805, 176, 19, 4802, 179, 19, 2, 3, 1, 0);
        x.wash(0, 10);
        Due.facts("and washing", Labs.ofGrain(x, 0), 1625, 176, 199, 4322, 179, 499, 2, 3, 1, 0);
        x.run(0, 1, 0, 0);
        Due.facts("and a run", Labs.ofGrain(x, 0), 1625, 176, 199, 4322, 179, 499, 2, 3, 1, 1);
    }

    private static void ofGrainTouched() {
        Grainclock x = Labs.threeGrains();
        x.swap(0, 4);
        x.withdraw(2);
        x.pace(0, 3);
        x.pass(1);
        x.run(0, 0, 0, 0);
        Due.same("by nothing else", x.ofGrain(0, 8), 0);
        x.heat(0, 0);
        Due.same("by heat", x.ofGrain(0, 8), 1);
        x.wash(1, 0);
        Due.same("by washing", x.ofGrain(1, 8), 1);
        x.heat(0, 0);
        x.wash(0, 0);
        Due.same("twice", x.ofGrain(0, 8), 1);
        Due.same("not the third", x.ofGrain(2, 8), 0);
    }

    private static void ofGrainRuns() {
        Grainclock x = Labs.halving();
        x.grain(8, 8, 0);
        x.grain(8, 8, 0);
        Due.same("none", x.ofGrain(0, 9), 0);
        for (int run = 0; run < 20; run++) {
            x.run(0, run % 2, 0, 0);
        }
        Due.same("all 20", x.ofGrain(0, 9), 20);
        Due.same("none of the other one", x.ofGrain(1, 9), 0);
        x.withdraw(7);
        Due.same("one is withdrawn", x.ofGrain(0, 9), 19);
        x.withdraw(19);
        Due.same("and the last", x.ofGrain(0, 9), 18);
        Grainclock y = Labs.threeGrains();
        y.withdraw(0);
        y.swap(0, 2);
        Due.same("one that is withdrawn came for one that stands", y.ofGrain(1, 9), 1);
        Due.same("and one that stands for it", y.ofGrain(0, 9), 2);
    }

    // ---- promise 13

    private static void ofRun() {
        Due.test("13 no such RUN", EdgesOfAnswersTest::ofRunRuns);
        Due.test("13 what is not 0 to 7", EdgesOfAnswersTest::ofRunWhats);
        Due.test("13 the exception that is named first", EdgesOfAnswersTest::ofRunNamesFirst);
        Due.test("13 each of 0 to 7", EdgesOfAnswersTest::ofRunEach);
        Due.test("13 of a RUN that is WITHDRAWN", EdgesOfAnswersTest::ofRunWithdrawn);
    }

    private static void ofRunRuns() {
        Due.same("0 of 20", Labs.full().ofRun(0, 0), 0);
        Due.same("19 of 20", Labs.full().ofRun(19, 0), 3);
        Due.refusesBusy("-1", Due.BAD_INDEX, x -> x.ofRun(-1, 0));
        Due.refusesBusy("6 of 6", Due.BAD_INDEX, x -> x.ofRun(6, 0));
        Due.refusesBusy("the least", Due.BAD_INDEX, x -> x.ofRun(Due.LEAST, 0));
        Due.refusesBusy("the most", Due.BAD_INDEX, x -> x.ofRun(Due.MOST, 0));
        Due.refusesFull("20 of 20", Due.BAD_INDEX, x -> x.ofRun(20, 0));
    }

    private static void ofRunWhats() {
        Due.same("0", Labs.busy().ofRun(0, 0), 2);
        Due.same("7", Labs.busy().ofRun(0, 7), 1);
        Due.refusesBusy("-1", Due.BAD_ARGUMENT, x -> x.ofRun(0, -1));
        Due.refusesBusy("8", Due.BAD_ARGUMENT, x -> x.ofRun(0, 8));
        Due.refusesBusy("the least", Due.BAD_ARGUMENT, x -> x.ofRun(0, Due.LEAST));
        Due.refusesBusy("the most", Due.BAD_ARGUMENT, x -> x.ofRun(0, Due.MOST));
    }

    private static void ofRunNamesFirst() {
        Due.refusesBusy("-1, asked -1", Due.BAD_INDEX, x -> x.ofRun(-1, -1));
        Due.refusesBusy("6, asked 8", Due.BAD_INDEX, x -> x.ofRun(6, 8));
    }

    private static void ofRunEach() {
        Grainclock x = new Grainclock();
        x.pace(1, 4);
        x.grain(1, 1, 0);
        x.grain(50, 100, 0);
        x.pass(2);
        // 100 75 57; the run tells of 101 at first, 101 76 57 43, with 60 to come to and 56 to stay above.
        x.run(1, 1, 1, 0);
        Due.facts("a run", Labs.ofRun(x, 0), 1, 1, 58, 43, 2, 2, 2, 1);
        x.pass(3);
        Due.facts("three years later", Labs.ofRun(x, 0), 1, 1, 58, 43, 2, 5, 5, 1);
    }

    private static void ofRunWithdrawn() {
        Grainclock x = Labs.threeGrains();
        x.withdraw(3);
        Due.facts("as before", Labs.ofRun(x, 3), 1, 1, 64, 448, 0, 3, 3, 0);
        x.swap(3, 5);
        x.pass(1);
        Due.facts("swapped, and a year later", Labs.ofRun(x, 3), 2, 1, 64, 448, 0, 4, 4, 0);
        x.pace(1, 3);
        // 512 342 228 152 102 68 46, so 64 behind 6 and till 5 years, and one since
        Due.facts("and by another pace", Labs.ofRun(x, 3), 2, 1, 64, 448, 0, 7, 6, 0);
    }

    // ---- promise 14

    private static void span() {
        Due.test("14 no such GRAIN", EdgesOfAnswersTest::spanGrains);
        Due.test("14 clock is neither NONE nor 0 or 1", EdgesOfAnswersTest::spanClocks);
        Due.test("14 what is not 0 to 2", EdgesOfAnswersTest::spanWhats);
        Due.test("14 the exception that is named first", EdgesOfAnswersTest::spanNamesFirst);
        Due.test("14 EARLY 0 without one, LATE 3000 without one", EdgesOfAnswersTest::spanWithout);
        Due.test("14 the greatest EARLY and the smallest LATE", EdgesOfAnswersTest::spanOfSeveral);
        Due.test("14 LATE: 3000 at most", EdgesOfAnswersTest::spanAtMost);
        Due.test("14 in QUARREL, if EARLY is above LATE", EdgesOfAnswersTest::quarrelEdge);
        Due.test("14 of all RUNS that stand with that LABEL and CLOCK; by both", EdgesOfAnswersTest::spanByClocks);
    }

    private static void spanGrains() {
        Due.same("0 of 8", Labs.full().span(0, -1, 0), 8);
        Due.same("7 of 8", Labs.full().span(7, -1, 0), 1);
        Due.refusesBusy("-1", Due.BAD_INDEX, x -> x.span(-1, 0, 0));
        Due.refusesBusy("3 of 3", Due.BAD_INDEX, x -> x.span(3, 0, 0));
        Due.refusesBusy("the least", Due.BAD_INDEX, x -> x.span(Due.LEAST, -1, 0));
        Due.refusesBusy("the most", Due.BAD_INDEX, x -> x.span(Due.MOST, 1, 0));
        Due.refusesFull("8 of 8", Due.BAD_INDEX, x -> x.span(8, -1, 0));
    }

    private static void spanClocks() {
        Grainclock x = Labs.busy();
        Due.same("NONE", x.span(0, -1, 0), 6);
        Due.same("0", x.span(0, 0, 0), 1);
        Due.same("1", x.span(0, 1, 0), 6);
        Due.refusesBusy("-2", Due.BAD_INDEX, y -> y.span(0, -2, 0));
        Due.refusesBusy("2", Due.BAD_INDEX, y -> y.span(0, 2, 0));
        Due.refusesBusy("the least", Due.BAD_INDEX, y -> y.span(0, Due.LEAST, 0));
        Due.refusesBusy("the most", Due.BAD_INDEX, y -> y.span(0, Due.MOST, 0));
    }

    private static void spanWhats() {
        Grainclock x = Labs.busy();
        Due.facts("0 to 2", Labs.span(x, 0, -1), 6, 1, 1);
        Due.refusesBusy("-1", Due.BAD_ARGUMENT, y -> y.span(0, -1, -1));
        Due.refusesBusy("3", Due.BAD_ARGUMENT, y -> y.span(0, -1, 3));
        Due.refusesBusy("3 of the clock 0", Due.BAD_ARGUMENT, y -> y.span(0, 0, 3));
        Due.refusesBusy("the least", Due.BAD_ARGUMENT, y -> y.span(0, 1, Due.LEAST));
        Due.refusesBusy("the most", Due.BAD_ARGUMENT, y -> y.span(0, 1, Due.MOST));
    }

    private static void spanNamesFirst() {
        Due.refusesBusy("no grain, asked 3", Due.BAD_INDEX, x -> x.span(3, 0, 3));
        Due.refusesBusy("no clock, asked 3", Due.BAD_INDEX, x -> x.span(0, 2, 3));
        Due.refusesBusy("neither, asked -1", Due.BAD_INDEX, x -> x.span(-1, -2, -1));
    }

    private static void spanWithout() {
        Grainclock x = Labs.halving();
        x.grain(1024, 1024, 0);
        x.pass(3);
        Due.facts("by the clock 0", Labs.span(x, 0, 0), 0, 3000, 0);
        Due.facts("by the clock 1", Labs.span(x, 0, 1), 0, 3000, 0);
        Due.facts("by both", Labs.span(x, 0, -1), 0, 3000, 0);
        x.run(0, 0, 0, 0);
        Due.facts("by the other clock", Labs.span(x, 0, 1), 0, 3000, 0);
        Due.facts("by both with one", Labs.span(x, 0, -1), 3, 3, 0);
        x.withdraw(0);
        Due.facts("with one that is withdrawn", Labs.span(x, 0, 0), 0, 3000, 0);
        x.pass(300);
        Due.facts("years later", Labs.span(x, 0, -1), 0, 3000, 0);
    }

    /** A grain of 16 with spans of 2 to 2, of 2 to 3 and of 1 to 3000, in that order of runs. */
    private static Grainclock threeSpans() {
        Grainclock x = Labs.halving();
        x.grain(16, 16, 0);
        x.pass(2);
        x.run(0, 0, 0, 0);
        x.slip(2);
        x.run(0, 1, 0, 0);
        x.slip(9);
        x.run(0, 0, 0, 0);
        return x;
    }

    private static void spanOfSeveral() {
        Grainclock x = threeSpans();
        Due.facts("the first", Labs.ofRun(x, 0), 0, 0, 4, 12, 0, 2, 2);
        Due.facts("the second", Labs.ofRun(x, 1), 0, 1, 4, 12, 2, 2, 3);
        Due.facts("the third", Labs.ofRun(x, 2), 0, 0, 4, 12, 9, 1, 3000);
        Due.facts("all", Labs.span(x, 0, -1), 2, 2, 0);
        x.withdraw(0);
        Due.facts("the second and the third", Labs.span(x, 0, -1), 2, 3, 0);
        x.withdraw(1);
        Due.facts("the third", Labs.span(x, 0, -1), 1, 3000, 0);
        Grainclock y = threeSpans();
        y.withdraw(1);
        Due.facts("the first and the third", Labs.span(y, 0, 0), 2, 2, 0);
    }

    private static void spanAtMost() {
        Grainclock x = threeSpans();
        x.withdraw(0);
        x.withdraw(1);
        x.pass(1);
        Due.facts("3001 of the run", Labs.ofRun(x, 2), 0, 0, 4, 12, 9, 2, 3001);
        Due.facts("3000 of the grain", Labs.span(x, 0, 0), 2, 3000, 0);
        Due.facts("by both", Labs.span(x, 0, -1), 2, 3000, 0);
        Grainclock y = Labs.halving();
        y.grain(1024, 0, 0);
        y.pass(6);
        y.wash(0, 50);
        // 1016 508 254 127 64 32 16 8, so 7 years in the year 6
        y.run(0, 0, 0, 0);
        for (int k = 0; k < 9; k++) {
            y.pass(300);
        }
        y.pass(293);
        Due.facts("3000", Labs.span(y, 0, -1), 3000, 3000, 0);
        y.pass(1);
        Due.facts("3001 of such a run", Labs.ofRun(y, 0), 0, 0, 8, 1008, 0, 3001, 3001);
        Due.facts("EARLY may be more", Labs.span(y, 0, -1), 3001, 3000, 1);
        Due.same("text", y.text(0), "3001-3000!*");
    }

    private static void quarrelEdge() {
        Grainclock x = threeSpans();
        Due.same("EARLY is LATE", x.span(0, 0, 2), 0);
        Due.same("EARLY is LATE by both", x.span(0, -1, 2), 0);
        Grainclock y = Labs.halving();
        y.grain(1024, 1024, 0);
        y.pass(3);
        y.wash(0, 10);
        // 116 and 896 of 1012: 1012 506 253 127 64
        y.run(0, 1, 0, 0);
        Due.facts("EARLY is LATE and 1", Labs.span(y, 0, 1), 4, 3, 1);
        Due.facts("by both", Labs.span(y, 0, -1), 4, 3, 1);
        Due.facts("not by the other clock", Labs.span(y, 0, 0), 0, 3000, 0);
        Due.same("GRAINS in QUARREL", y.lab(6), 1);
    }

    private static void spanByClocks() {
        Grainclock x = Labs.threeGrains();
        x.swap(0, 4);
        Due.facts("by the clock 0", Labs.span(x, 0, 0), 1, 1, 0);
        Due.facts("by the clock 1", Labs.span(x, 0, 1), 6, 6, 0);
        Due.facts("by both", Labs.span(x, 0, -1), 6, 1, 1);
        Due.facts("of the other label by the clock 0", Labs.span(x, 2, 0), 6, 6, 0);
        Due.facts("of the other label by the clock 1", Labs.span(x, 2, 1), 1, 1, 0);
        Due.facts("of another label", Labs.span(x, 1, -1), 3, 3, 0);
    }

    // ---- promise 15

    private static void narrowed() {
        Due.test("15 no such GRAIN", EdgesOfAnswersTest::narrowedGrains);
        Due.test("15 the greatest EARLY of itself and all GRAINS in BEDS above its own", EdgesOfAnswersTest::fromAbove);
        Due.test("15 the smallest LATE of itself and all GRAINS in BEDS below its own", EdgesOfAnswersTest::fromBelow);
        Due.test("15 all GRAINS, whatever their numbers", EdgesOfAnswersTest::narrowedByEach);
        Due.test("15 not of its own BED", EdgesOfAnswersTest::ownBed);
        Due.test("15 alone", EdgesOfAnswersTest::narrowedAlone);
        Due.test("15 LATE: 3000 at most", EdgesOfAnswersTest::narrowedAtMost);
    }

    private static void narrowedGrains() {
        Due.same("7 of 8", Labs.full().narrowed(7, true), 1);
        Due.refusesBusy("-1", Due.BAD_INDEX, x -> x.narrowed(-1, true));
        Due.refusesBusy("-1, EARLY", Due.BAD_INDEX, x -> x.narrowed(-1, false));
        Due.refusesBusy("3 of 3", Due.BAD_INDEX, x -> x.narrowed(3, true));
        Due.refusesBusy("3 of 3, EARLY", Due.BAD_INDEX, x -> x.narrowed(3, false));
        Due.refusesBusy("the least", Due.BAD_INDEX, x -> x.narrowed(Due.LEAST, false));
        Due.refusesBusy("the most", Due.BAD_INDEX, x -> x.narrowed(Due.MOST, true));
        Due.refusesFull("8 of 8", Due.BAD_INDEX, x -> x.narrowed(8, true));
    }

    /** Six grains of no runs, one in each bed, and a last one of 5 years in the bed. */
    private static Grainclock sixBedsAnd(int bed) {
        Grainclock x = Labs.halving();
        for (int grain = 0; grain < 6; grain++) {
            x.grain(64, 64, grain);
        }
        x.grain(64, 64, bed);
        x.pass(5);
        x.run(6, 0, 0, 0);
        return x;
    }

    private static void fromAbove() {
        for (int bed = 0; bed < 6; bed++) {
            Grainclock x = sixBedsAnd(bed);
            for (int grain = 0; grain < 6; grain++) {
                Due.same("EARLY in " + grain + " of 5 in " + bed, x.narrowed(grain, false), grain < bed ? 5 : 0);
            }
            Due.same("EARLY of itself in " + bed, x.narrowed(6, false), 5);
        }
        Due.same("the greatest", Labs.full().narrowed(0, false), 8);
        Due.same("the greatest of several above", Labs.full().narrowed(6, false), 7);
        Due.same("the greatest of several above too", Labs.full().narrowed(7, false), 6);
    }

    private static void fromBelow() {
        for (int bed = 0; bed < 6; bed++) {
            Grainclock x = sixBedsAnd(bed);
            for (int grain = 0; grain < 6; grain++) {
                Due.same("LATE in " + grain + " of 5 in " + bed, x.narrowed(grain, true), grain > bed ? 5 : 3000);
            }
            Due.same("LATE of itself in " + bed, x.narrowed(6, true), 5);
        }
        Due.same("the smallest", Labs.full().narrowed(7, true), 1);
        Due.same("the smallest of several below", Labs.full().narrowed(1, true), 2);
        Due.same("the smallest of several below too", Labs.full().narrowed(5, true), 1);
        Due.same("none below", Labs.full().narrowed(0, true), 8);
    }

    private static void narrowedByEach() {
        for (int dated = 0; dated < 8; dated++) {
            Grainclock below = Labs.halving();
            Grainclock above = Labs.halving();
            for (int grain = 0; grain < 8; grain++) {
                below.grain(64, 64, grain == dated ? 2 : 3);
                above.grain(64, 64, grain == dated ? 3 : 2);
            }
            below.pass(4);
            above.pass(4);
            below.run(dated, 0, 0, 0);
            above.run(dated, 1, 0, 0);
            for (int grain = 0; grain < 8; grain++) {
                String what = grain + " by " + dated;
                boolean isIt = grain == dated;
                Due.same("LATE from below, " + what, below.narrowed(grain, true), 4);
                Due.same("no EARLY from below, " + what, below.narrowed(grain, false), isIt ? 4 : 0);
                Due.same("EARLY from above, " + what, above.narrowed(grain, false), 4);
                Due.same("no LATE from above, " + what, above.narrowed(grain, true), isIt ? 4 : 3000);
            }
        }
    }

    private static void ownBed() {
        Grainclock x = Labs.halving();
        x.grain(64, 64, 5);
        x.pass(2);
        x.grain(64, 64, 5);
        x.pass(2);
        x.run(0, 0, 0, 0);
        x.run(1, 0, 0, 0);
        Due.facts("the older one", new int[] {x.narrowed(0, false), x.narrowed(0, true)}, 4, 4);
        Due.facts("the younger one", new int[] {x.narrowed(1, false), x.narrowed(1, true)}, 2, 2);
        x.grain(64, 64, 5);
        Due.facts("one without a run", new int[] {x.narrowed(2, false), x.narrowed(2, true)}, 0, 3000);
    }

    private static void narrowedAlone() {
        Grainclock x = Labs.halving();
        x.grain(64, 64, 2);
        Due.facts("without a run", new int[] {x.narrowed(0, false), x.narrowed(0, true)}, 0, 3000);
        x.pass(2);
        x.run(0, 1, 0, 0);
        Due.facts("with one", new int[] {x.narrowed(0, false), x.narrowed(0, true)}, 2, 2);
    }

    private static void narrowedAtMost() {
        Grainclock x = Labs.old();
        x.grain(64, 64, 0);
        x.grain(64, 64, 5);
        Due.facts("of 3000 years", new int[] {x.narrowed(0, false), x.narrowed(0, true)}, 3000, 3000);
        Due.facts("above it", new int[] {x.narrowed(2, false), x.narrowed(2, true)}, 0, 3000);
        x.wash(1, 100);
        x.run(1, 0, 0, 0);
        Due.facts("with a LATE of 3000", new int[] {x.narrowed(1, false), x.narrowed(1, true)}, 0, 3000);
    }

    // ---- promise 16

    private static void ofPrint() {
        Due.test("16 no such PRINT", EdgesOfAnswersTest::ofPrintPrints);
        Due.test("16 what is not 0 to 4", EdgesOfAnswersTest::ofPrintWhats);
        Due.test("16 the exception that is named first", EdgesOfAnswersTest::ofPrintNamesFirst);
        Due.test("16 2: the PRINT on which it stands (NONE)", EdgesOfAnswersTest::ofPrintOn);
        Due.test("16 4: how many PRINTS it stands on, one behind the other", EdgesOfAnswersTest::ofPrintChain);
        Due.test("16 1: the PACE by which it was printed", EdgesOfAnswersTest::ofPrintPace);
    }

    private static void ofPrintPrints() {
        Due.same("0 of 10", Labs.full().ofPrint(0, 0), 0);
        Due.same("9 of 10", Labs.full().ofPrint(9, 0), 9);
        Due.refusesBusy("-1, as NONE", Due.BAD_INDEX, x -> x.ofPrint(-1, 0));
        Due.refusesBusy("3 of 3", Due.BAD_INDEX, x -> x.ofPrint(3, 0));
        Due.refusesBusy("the least", Due.BAD_INDEX, x -> x.ofPrint(Due.LEAST, 0));
        Due.refusesBusy("the most", Due.BAD_INDEX, x -> x.ofPrint(Due.MOST, 0));
        Due.refusesFull("10 of 10", Due.BAD_INDEX, x -> x.ofPrint(10, 0));
    }

    private static void ofPrintWhats() {
        Grainclock x = Labs.busy();
        Due.facts("0 to 4", Labs.ofPrint(x, 2), 5, 2, 0, 1, 1);
        Due.refusesBusy("-1", Due.BAD_ARGUMENT, y -> y.ofPrint(0, -1));
        Due.refusesBusy("5", Due.BAD_ARGUMENT, y -> y.ofPrint(0, 5));
        Due.refusesBusy("the least", Due.BAD_ARGUMENT, y -> y.ofPrint(0, Due.LEAST));
        Due.refusesBusy("the most", Due.BAD_ARGUMENT, y -> y.ofPrint(0, Due.MOST));
    }

    private static void ofPrintNamesFirst() {
        Due.refusesBusy("-1, asked -1", Due.BAD_INDEX, x -> x.ofPrint(-1, -1));
        Due.refusesBusy("3, asked 5", Due.BAD_INDEX, x -> x.ofPrint(3, 5));
    }

    private static void ofPrintOn() {
        Grainclock x = Labs.threeGrains();
        x.print(4, -1);
        x.print(2, 0);
        x.print(3, -1);
        Due.same("on none", x.ofPrint(0, 2), -1);
        Due.same("on the first", x.ofPrint(1, 2), 0);
        Due.same("on none again", x.ofPrint(2, 2), -1);
        x.withdraw(4);
        Due.same("on one that fell", x.ofPrint(1, 2), 0);
        Due.same("its RUN", x.ofPrint(1, 0), 2);
        Due.same("RUN of the one that fell", x.ofPrint(0, 0), 4);
    }

    private static void ofPrintChain() {
        Grainclock x = Labs.full();
        for (int print = 0; print < 10; print++) {
            Due.same("of a chain, " + print, x.ofPrint(print, 4), print);
        }
        x.withdraw(0);
        Due.same("also when it fell", x.ofPrint(9, 4), 9);
        Grainclock y = Labs.threeGrains();
        y.print(0, -1);
        y.print(1, 0);
        y.print(2, 0);
        y.print(3, -1);
        y.print(4, 3);
        Due.facts("of a tree", new int[] {y.ofPrint(0, 4), y.ofPrint(1, 4), y.ofPrint(2, 4), y.ofPrint(3, 4),
            y.ofPrint(4, 4)}, 0, 1, 1, 0, 1);
    }

    private static void ofPrintPace() {
        Grainclock x = Labs.threeGrains();
        x.pace(0, 200);
        x.print(0, -1);
        x.print(1, -1);
        x.pace(0, 2);
        x.print(0, -1);
        Due.facts("as they were", new int[] {x.ofPrint(0, 1), x.ofPrint(1, 1), x.ofPrint(2, 1)}, 200, 2, 2);
        Due.facts("which STAND", new int[] {x.ofPrint(0, 3), x.ofPrint(1, 3), x.ofPrint(2, 3)}, 0, 1, 1);
    }

    // ---- promise 17

    private static void lab() {
        Due.test("17 what is not 0 to 10", EdgesOfAnswersTest::labWhats);
        Due.test("17 each of 0 to 10, all places taken", EdgesOfAnswersTest::labFull);
        Due.test("17 2 and 3: that stand", EdgesOfAnswersTest::labStands);
        Due.test("17 6: GRAINS in QUARREL by both CLOCKS", EdgesOfAnswersTest::labQuarrels);
        Due.test("17 10: all motes that ever were", EdgesOfAnswersTest::labMotes);
    }

    private static void labWhats() {
        Due.same("0", Labs.busy().lab(0), 6);
        Due.same("10", Labs.busy().lab(10), 3712);
        Due.refusesBusy("-1", Due.BAD_ARGUMENT, x -> x.lab(-1));
        Due.refusesBusy("11", Due.BAD_ARGUMENT, x -> x.lab(11));
        Due.refusesBusy("the least", Due.BAD_ARGUMENT, x -> x.lab(Due.LEAST));
        Due.refusesBusy("the most", Due.BAD_ARGUMENT, x -> x.lab(Due.MOST));
    }

    private static void labFull() {
        // 1 to 5 in the beds above are older than 6 and 7 in the beds 0 and 1.
        Due.facts("full", Labs.lab(Labs.full()), 8, 8, 20, 10, 0, 0, 0, 2, 2, 2, 12288);
    }

    private static void labStands() {
        Grainclock x = Labs.full();
        x.withdraw(19);
        x.withdraw(5);
        Due.same("RUNS", x.lab(2), 18);
        Due.same("PRINTS", x.lab(3), 5);
        x.pace(0, 3);
        Due.same("RUNS by another pace", x.lab(2), 18);
        Due.same("PRINTS by another pace", x.lab(3), 0);
    }

    private static void labQuarrels() {
        Grainclock x = Labs.halving();
        x.grain(1024, 1024, 0);
        x.grain(1024, 1024, 0);
        x.pass(3);
        x.run(0, 0, 0, 0);
        x.run(1, 0, 0, 0);
        x.heat(0, 100);
        x.run(0, 1, 0, 0);
        Due.facts("not by the clock 0", Labs.span(x, 0, 0), 3, 3, 0);
        Due.facts("nor by the clock 1", Labs.span(x, 0, 1), 0, 0, 0);
        Due.same("but by both", x.lab(6), 1);
        x.heat(1, 100);
        x.run(1, 0, 0, 0);
        Due.same("and one by the clock 0 alone", x.lab(6), 2);
        x.withdraw(0);
        Due.same("one is left", x.lab(6), 1);
    }

    private static void labMotes() {
        Grainclock x = Labs.halving();
        Due.same("none", x.lab(10), 0);
        x.grain(0, 0, 0);
        Due.same("none of a GRAIN of none", x.lab(10), 0);
        x.grain(7, 0, 0);
        Due.same("of the CLOCK 0", x.lab(10), 7);
        x.grain(0, 5, 0);
        Due.same("of both CLOCKS", x.lab(10), 12);
        x.pass(1);
        x.heat(1, 100);
        x.wash(1, 100);
        x.wash(2, 50);
        Due.same("also what turned and what is GONE", x.lab(10), 12);
    }

    // ---- promise 18

    private static void text() {
        Due.test("18 no such GRAIN", EdgesOfAnswersTest::textGrains);
        Due.test("18 early-late, as numbers", EdgesOfAnswersTest::textNumbers);
        Due.test("18 ! behind it, if it is in QUARREL", EdgesOfAnswersTest::textQuarrel);
        Due.test("18 and *, if it was TOUCHED", EdgesOfAnswersTest::textTouched);
    }

    private static void textGrains() {
        Due.same("7 of 8", Labs.full().text(7), "1-1");
        Due.refusesBusy("-1", Due.BAD_INDEX, x -> x.text(-1));
        Due.refusesBusy("3 of 3", Due.BAD_INDEX, x -> x.text(3));
        Due.refusesBusy("the least", Due.BAD_INDEX, x -> x.text(Due.LEAST));
        Due.refusesBusy("the most", Due.BAD_INDEX, x -> x.text(Due.MOST));
        Due.refusesFull("8 of 8", Due.BAD_INDEX, x -> x.text(8));
    }

    private static void textNumbers() {
        Grainclock x = Labs.halving();
        x.grain(1024, 1024, 0);
        Due.same("without a run", x.text(0), "0-3000");
        x.run(0, 0, 0, 0);
        Due.same("not a year old", x.text(0), "0-0");
        x.pass(10);
        Due.same("10 years old", x.text(0), "10-10");
        x.pass(300);
        Due.same("310 years old", x.text(0), "310-310");
        Due.same("3000 years old", Labs.old().text(0), "3000-3000");
    }

    private static void textQuarrel() {
        Due.same("EARLY is LATE", threeSpans().text(0), "2-2");
        Grainclock x = Labs.threeGrains();
        x.swap(0, 4);
        Due.same("by both CLOCKS", x.text(0), "6-1!");
        Due.same("the other one", x.text(2), "6-1!");
        Due.same("neither", x.text(1), "3-3");
        x.withdraw(4);
        Due.same("no more", x.text(0), "6-6");
    }

    private static void textTouched() {
        Grainclock x = Labs.threeGrains();
        x.swap(0, 4);
        x.heat(0, 0);
        x.wash(1, 0);
        Due.same("! and *", x.text(0), "6-1!*");
        Due.same("* alone", x.text(1), "3-3*");
        Due.same("! alone", x.text(2), "6-1!");
        x.heat(1, 0);
        Due.same("one * for both", x.text(1), "3-3*");
        Grainclock y = new Grainclock();
        y.grain(0, 0, 0);
        y.wash(0, 100);
        Due.same("without a run", y.text(0), "0-3000*");
    }
}
