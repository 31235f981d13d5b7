import java.math.BigInteger;

/** Promises 19 to 26, AGREE, the FEWEST and BEST SWAP: each sentence that names an edge, by itself. */
public final class EdgesOfWhatWouldBeTest {
    private EdgesOfWhatWouldBeTest() {
    }

    public static void main(String[] args) {
        left();
        age();
        agree();
        fewest();
        bestSwap();
        changed();
        wider();
        isSound();
        digest();
        Due.end();
    }

    // ---- promise 19

    private static void left() {
        Due.test("19 clock is not 0 or 1", EdgesOfWhatWouldBeTest::leftClocks);
        Due.test("19 mothers is not 0 to 19999", EdgesOfWhatWouldBeTest::leftMothers);
        Due.test("19 years not 0 to 3000", EdgesOfWhatWouldBeTest::leftYears);
        Due.test("19 the exception that is named first", EdgesOfWhatWouldBeTest::leftNamesFirst);
        Due.test("19 TABLE: by its PACE of now", EdgesOfWhatWouldBeTest::leftByPace);
        Due.test("19 what would be (nothing is changed)", EdgesOfWhatWouldBeTest::leftChangesNothing);
    }

    private static void leftClocks() {
        Grainclock x = new Grainclock();
        Due.same("0", x.left(0, 100, 1), 95);
        Due.same("1", x.left(1, 100, 1), 98);
        Due.refusesBusy("-1", Due.BAD_INDEX, y -> y.left(-1, 100, 1));
        Due.refusesBusy("2", Due.BAD_INDEX, y -> y.left(2, 100, 1));
        Due.refusesBusy("the least", Due.BAD_INDEX, y -> y.left(Due.LEAST, 100, 1));
        Due.refusesBusy("the most", Due.BAD_INDEX, y -> y.left(Due.MOST, 100, 1));
    }

    private static void leftMothers() {
        Grainclock x = new Grainclock();
        Due.same("0", x.left(0, 0, 1), 0);
        Due.same("1", x.left(0, 1, 1), 1);
        Due.same("19", x.left(0, 19, 1), 19);
        Due.same("20", x.left(0, 20, 1), 19);
        Due.same("19999", x.left(0, 19999, 1), 19000);
        Due.same("19999 of the clock 1", x.left(1, 19999, 1), 19600);
        Due.same("19999, two years", x.left(0, 19999, 2), 18050);
        Due.refusesBusy("-1", Due.BAD_ARGUMENT, y -> y.left(0, -1, 1));
        Due.refusesBusy("20000", Due.BAD_ARGUMENT, y -> y.left(0, 20000, 1));
        Due.refusesBusy("the least", Due.BAD_ARGUMENT, y -> y.left(1, Due.LEAST, 1));
        Due.refusesBusy("the most", Due.BAD_ARGUMENT, y -> y.left(1, Due.MOST, 1));
    }

    private static void leftYears() {
        Grainclock x = new Grainclock();
        Due.same("0", x.left(0, 100, 0), 100);
        Due.same("1", x.left(0, 100, 1), 95);
        Due.same("2", x.left(0, 100, 2), 91);
        Due.same("3000", x.left(0, 100, 3000), 19);
        Due.same("3000 of the most", x.left(1, 19999, 3000), 49);
        Due.refusesBusy("-1", Due.BAD_ARGUMENT, y -> y.left(0, 100, -1));
        Due.refusesBusy("3001", Due.BAD_ARGUMENT, y -> y.left(0, 100, 3001));
        Due.refusesBusy("the least", Due.BAD_ARGUMENT, y -> y.left(1, 100, Due.LEAST));
        Due.refusesBusy("the most", Due.BAD_ARGUMENT, y -> y.left(1, 100, Due.MOST));
    }

    private static void leftNamesFirst() {
        Due.refusesBusy("no clock, and mothers", Due.BAD_INDEX, x -> x.left(2, -1, 1));
        Due.refusesBusy("no clock, and years", Due.BAD_INDEX, x -> x.left(-1, 100, 3001));
        Due.refusesBusy("no clock, and both", Due.BAD_INDEX, x -> x.left(2, 20000, -1));
        Due.refusesBusy("both", Due.BAD_ARGUMENT, x -> x.left(0, 20000, -1));
    }

    private static void leftByPace() {
        Grainclock x = new Grainclock();
        x.pace(0, 2);
        x.pace(1, 200);
        Due.same("2", x.left(0, 19999, 14), 2);
        Due.same("2, the year behind", x.left(0, 19999, 15), 1);
        Due.same("2, at the end", x.left(0, 19999, 3000), 1);
        Due.same("200", x.left(1, 19999, 1), 19900);
        Due.same("200, one that turns", x.left(1, 200, 1), 199);
        Due.same("200, at the end", x.left(1, 19999, 3000), 199);
        // By a pace of 200 one turns each year from 399 down to 199.
        Due.same("200, of 399", x.left(1, 399, 199), 200);
        Due.same("200, of 399, the year behind", x.left(1, 399, 200), 199);
    }

    private static void leftChangesNothing() {
        Grainclock x = Labs.busy();
        long before = x.digest();
        Due.same("left", x.left(0, 1024, 3), 128);
        Due.same("digest", x.digest(), before);
        x.pass(10);
        Due.same("not by YEARS ever", x.left(0, 1024, 3), 128);
    }

    // ---- promise 20

    private static void age() {
        Due.test("20 clock is not 0 or 1", EdgesOfWhatWouldBeTest::ageClocks);
        Due.test("20 mothers is not 0 to 9999", EdgesOfWhatWouldBeTest::ageMothers);
        Due.test("20 daughters is not 0 to 9999", EdgesOfWhatWouldBeTest::ageDaughters);
        Due.test("20 the exception that is named first", EdgesOfWhatWouldBeTest::ageNamesFirst);
        Due.test("20 with a SLIP of 0", EdgesOfWhatWouldBeTest::ageWithoutSlip);
        Due.test("20 of now", EdgesOfWhatWouldBeTest::ageOfNow);
        Due.test("20 EARLY or LATE as a RUN has it", EdgesOfWhatWouldBeTest::ageAsRun);
    }

    private static void ageClocks() {
        Grainclock x = new Grainclock();
        Due.same("0", x.age(0, 95, 5, false), 1);
        Due.same("1", x.age(1, 95, 5, false), 4);
        Due.refusesBusy("-1", Due.BAD_INDEX, y -> y.age(-1, 5, 5, false));
        Due.refusesBusy("2", Due.BAD_INDEX, y -> y.age(2, 5, 5, true));
        Due.refusesBusy("the least", Due.BAD_INDEX, y -> y.age(Due.LEAST, 5, 5, false));
        Due.refusesBusy("the most", Due.BAD_INDEX, y -> y.age(Due.MOST, 5, 5, true));
    }

    private static void ageMothers() {
        Grainclock x = Labs.halving();
        Due.same("0, EARLY", x.age(0, 0, 5, false), 3000);
        Due.same("0, LATE", x.age(0, 0, 5, true), 3000);
        Due.same("9999, EARLY", x.age(0, 9999, 9999, false), 1);
        Due.same("9999, LATE", x.age(0, 9999, 9999, true), 1);
        Due.same("9999 alone, LATE", x.age(0, 9999, 0, true), 0);
        Due.refusesBusy("-1", Due.BAD_ARGUMENT, y -> y.age(0, -1, 5, false));
        Due.refusesBusy("10000", Due.BAD_ARGUMENT, y -> y.age(0, 10000, 5, false));
        Due.refusesBusy("-1, LATE", Due.BAD_ARGUMENT, y -> y.age(1, -1, 5, true));
        Due.refusesBusy("10000, LATE", Due.BAD_ARGUMENT, y -> y.age(1, 10000, 5, true));
        Due.refusesBusy("the least", Due.BAD_ARGUMENT, y -> y.age(0, Due.LEAST, 5, true));
        Due.refusesBusy("the most", Due.BAD_ARGUMENT, y -> y.age(0, Due.MOST, 5, false));
    }

    private static void ageDaughters() {
        Grainclock x = Labs.halving();
        Due.same("0, EARLY", x.age(0, 2, 0, false), 0);
        Due.same("0, LATE", x.age(0, 2, 0, true), 0);
        Due.same("9999 and none, EARLY", x.age(0, 0, 9999, false), 3000);
        Due.same("9999 and one, EARLY", x.age(0, 1, 9999, false), 14);
        Due.same("9999 and two, LATE", x.age(0, 2, 9999, true), 13);
        Due.same("9999 and one, LATE", x.age(0, 1, 9999, true), 3000);
        Due.refusesBusy("-1", Due.BAD_ARGUMENT, y -> y.age(0, 5, -1, false));
        Due.refusesBusy("10000", Due.BAD_ARGUMENT, y -> y.age(0, 5, 10000, false));
        Due.refusesBusy("-1, LATE", Due.BAD_ARGUMENT, y -> y.age(1, 5, -1, true));
        Due.refusesBusy("10000, LATE", Due.BAD_ARGUMENT, y -> y.age(1, 5, 10000, true));
        Due.refusesBusy("the least", Due.BAD_ARGUMENT, y -> y.age(0, 5, Due.LEAST, true));
        Due.refusesBusy("the most", Due.BAD_ARGUMENT, y -> y.age(0, 5, Due.MOST, false));
    }

    private static void ageNamesFirst() {
        Due.refusesBusy("no clock, and mothers", Due.BAD_INDEX, x -> x.age(2, -1, 5, true));
        Due.refusesBusy("no clock, and daughters", Due.BAD_INDEX, x -> x.age(-1, 5, 10000, false));
        Due.refusesBusy("no clock, and both", Due.BAD_INDEX, x -> x.age(2, 10000, 10000, false));
    }

    private static void ageWithoutSlip() {
        Grainclock x = Labs.halving();
        x.slip(9);
        // 16 8 4
        Due.same("EARLY", x.age(0, 4, 12, false), 2);
        Due.same("LATE", x.age(0, 4, 12, true), 2);
        x.slip(0);
        Due.same("EARLY by another slip", x.age(0, 4, 12, false), 2);
    }

    private static void ageOfNow() {
        Grainclock x = Labs.old();
        Due.same("EARLY at the end of all YEARS", x.age(0, 4, 12, false), 2);
        Due.same("LATE at the end of all YEARS", x.age(0, 4, 12, true), 2);
        long before = x.digest();
        Due.same("LATE of none", x.age(0, 0, 0, true), 3000);
        Due.same("nothing is changed", x.digest(), before);
    }

    private static void ageAsRun() {
        for (int pace = 2; pace <= 200; pace += 33) {
            Grainclock x = new Grainclock();
            x.pace(0, pace);
            x.slip(0);
            x.grain(9999, 0, 0);
            x.pass(13);
            x.wash(0, 37);
            x.run(0, 0, 0, 0);
            int[] run = Labs.ofRun(x, 0);
            Due.same("EARLY by " + pace, x.age(0, run[2], run[3], false), run[5]);
            Due.same("LATE by " + pace, x.age(0, run[2], run[3], true), run[6]);
        }
    }

    // ---- agree

    private static void agree() {
        Due.test("AGREE: none of them is in QUARREL by both CLOCKS", EdgesOfWhatWouldBeTest::agreeQuarrel);
        Due.test("AGREE: EARLY of the upper one is above LATE of the lower one", EdgesOfWhatWouldBeTest::agreeEdge);
        Due.test("AGREE: the one in a BED above that of the other one", EdgesOfWhatWouldBeTest::agreeBeds);
        Due.test("AGREE: by both CLOCKS, not NARROWED", EdgesOfWhatWouldBeTest::agreeNotNarrowed);
        Due.test("AGREE: LATE 3000 at most", EdgesOfWhatWouldBeTest::agreeAtMost);
    }

    private static void agreeQuarrel() {
        Grainclock x = Labs.halving();
        x.grain(1024, 1024, 0);
        x.grain(1024, 1024, 0);
        x.pass(3);
        x.run(0, 0, 0, 0);
        x.run(1, 0, 0, 0);
        x.heat(1, 100);
        x.run(1, 1, 0, 0);
        Due.facts("by both", Labs.span(x, 1, -1), 3, 0, 1);
        Due.same("one is in QUARREL", x.fewest(), 2);
        x.withdraw(1);
        Due.same("no more", x.fewest(), 0);
    }

    /** Grain 0 of 3 to 3 years, and grain 1 of 2 to 3 or of 2 to 2, in these beds. */
    private static Grainclock threeAndTwo(int first, int second, int slip) {
        Grainclock x = Labs.halving();
        x.grain(64, 0, first);
        x.pass(1);
        x.grain(16, 0, second);
        x.pass(2);
        x.run(0, 0, 0, 0);
        x.slip(slip);
        x.run(1, 0, 0, 0);
        return x;
    }

    private static void agreeEdge() {
        Due.same("EARLY 3 on LATE 3", threeAndTwo(1, 0, 2).fewest(), 0);
        Due.same("EARLY 3 on LATE 2", threeAndTwo(1, 0, 0).fewest(), 1);
        Due.same("EARLY 2 on LATE 3", threeAndTwo(0, 1, 0).fewest(), 0);
        Due.facts("2 to 3", Labs.span(threeAndTwo(1, 0, 2), 1, -1), 2, 3, 0);
        Due.facts("2 to 2", Labs.span(threeAndTwo(1, 0, 0), 1, -1), 2, 2, 0);
    }

    private static void agreeBeds() {
        for (int first = 0; first < 6; first++) {
            for (int second = 0; second < 6; second++) {
                int due = first > second ? 1 : 0;
                Due.same("3 in " + first + ", 2 in " + second, threeAndTwo(first, second, 0).fewest(), due);
            }
        }
    }

    private static void agreeNotNarrowed() {
        Grainclock x = Labs.halving();
        x.grain(64, 64, 5);
        x.grain(64, 64, 3);
        x.grain(64, 64, 1);
        x.pass(3);
        x.run(0, 0, 0, 0);
        x.heat(2, 100);
        x.run(2, 1, 0, 0);
        Due.facts("between both", new int[] {x.narrowed(1, false), x.narrowed(1, true)}, 3, 0);
        Due.same("of 3 and of none, of both CLOCKS", x.fewest(), 1);
    }

    private static void agreeAtMost() {
        Grainclock x = Labs.halving();
        x.grain(1024, 0, 5);
        x.grain(64, 64, 0);
        x.pass(6);
        x.wash(0, 50);
        x.run(0, 0, 0, 0);
        for (int k = 0; k < 9; k++) {
            x.pass(300);
        }
        x.pass(293);
        Due.same("3000 on LATE 3000", x.fewest(), 0);
        x.pass(1);
        Due.same("3001 on LATE 3000, and in QUARREL", x.fewest(), 1);
    }

    // ---- promise 21

    private static void fewest() {
        Due.test("21 A set is the sum of 2^k for the numbers k in it", EdgesOfWhatWouldBeTest::fewestAsSet);
        Due.test("21 none must go", EdgesOfWhatWouldBeTest::fewestNone);
        Due.test("21 all must go", EdgesOfWhatWouldBeTest::fewestAll);
        Due.test("21 of several the smallest one as a number", EdgesOfWhatWouldBeTest::fewestOfSeveral);
        Due.test("21 the fewest GRAINS, though a greater number", EdgesOfWhatWouldBeTest::fewestBeforeSmallest);
        Due.test("21 all places taken", EdgesOfWhatWouldBeTest::fewestOfFull);
    }

    /** So many grains of 3 years in the bed; those in the set are then heated, so that they date to none. */
    private static Grainclock heated(int heated, int... beds) {
        Grainclock x = Labs.halving();
        for (int bed : beds) {
            x.grain(64, 64, bed);
        }
        x.pass(3);
        for (int grain = 0; grain < beds.length; grain++) {
            if ((heated >> grain & 1) == 1) {
                x.heat(grain, 100);
            }
            x.run(grain, 0, 0, 0);
        }
        return x;
    }

    private static void fewestAsSet() {
        for (int grain = 0; grain < 8; grain++) {
            Grainclock x = heated(0, 0, 0, 0, 0, 0, 0, 0, 0);
            x.heat(grain, 100);
            x.run(grain, 0, 0, 0);
            Due.same("grain " + grain, x.fewest(), 1 << grain);
            Due.same("how many, grain " + grain, x.lab(7), 1);
        }
        Grainclock y = heated(0, 0, 0, 0, 0, 0, 0, 0, 0);
        y.heat(2, 100);
        y.run(2, 0, 0, 0);
        y.heat(7, 100);
        y.run(7, 0, 0, 0);
        Due.same("grains 2 and 7", y.fewest(), 132);
    }

    private static void fewestNone() {
        Due.same("without GRAINS", new Grainclock().fewest(), 0);
        Grainclock x = new Grainclock();
        x.grain(1, 1, 0);
        Due.same("one without a run", x.fewest(), 0);
        Due.same("all in one bed", heated(170, 3, 3, 3, 3, 3, 3, 3, 3).fewest(), 0);
        Due.same("the younger ones above", heated(240, 0, 0, 1, 1, 4, 4, 5, 5).fewest(), 0);
        Due.same("how many", heated(240, 0, 0, 1, 1, 4, 4, 5, 5).lab(7), 0);
    }

    private static void fewestAll() {
        Grainclock x = heated(0, 0, 1, 2, 3, 4, 5, 0, 1);
        for (int grain = 0; grain < 8; grain++) {
            x.heat(grain, 100);
            x.run(grain, 1, 0, 0);
        }
        Due.same("8 in QUARREL", x.lab(6), 8);
        Due.same("8 must go", x.lab(7), 8);
        Due.same("all of 8", x.fewest(), 255);
        Grainclock y = heated(0, 4);
        y.heat(0, 100);
        y.run(0, 1, 0, 0);
        Due.same("all of one", y.fewest(), 1);
    }

    private static void fewestOfSeveral() {
        Due.same("of 0 or 1", heated(2, 1, 0).fewest(), 1);
        Due.same("of 0 or 1, the other way about", heated(1, 0, 1).fewest(), 1);
        // Both of 0 and 3 clash with both of 1 and 2.
        Due.same("of 0 and 3 or 1 and 2", heated(6, 1, 0, 0, 1).fewest(), 6);
        Due.same("of 1 and 2 or 0 and 3", heated(9, 0, 1, 1, 0).fewest(), 6);
        Due.same("of 0 to 3 or 4 to 7", heated(15, 0, 1, 2, 2, 3, 4, 5, 5).fewest(), 15);
        Due.same("of 4 to 7 or 0 to 3", heated(240, 3, 4, 5, 5, 0, 1, 2, 2).fewest(), 15);
    }

    private static void fewestBeforeSmallest() {
        Due.same("the last one alone", heated(128, 1, 2, 3, 4, 5, 5, 1, 0).fewest(), 128);
        Due.same("the last one alone, above", heated(127, 0, 1, 2, 3, 4, 4, 0, 5).fewest(), 128);
        Due.same("the last two", heated(192, 1, 2, 3, 4, 5, 5, 0, 0).fewest(), 192);
    }

    private static void fewestOfFull() {
        Due.same("6 and 7", Labs.full().fewest(), 192);
        // Of 0 to 4 and 6 one may stay; without the one with the greatest number the set is the smallest.
        Due.same("all but 6", rising().fewest(), 191);
        Due.same("how many", rising().lab(7), 7);
    }

    /** The higher the bed the older, so that no two of 0 to 4 and 6 agree; 5 and 7 are in quarrel. */
    private static Grainclock rising() {
        Grainclock x = Labs.halving();
        for (int grain = 0; grain < 8; grain++) {
            x.grain(1024, 1024, Math.max(0, 5 - grain));
            x.pass(1);
        }
        for (int grain = 0; grain < 8; grain++) {
            x.run(grain, 0, 0, 0);
        }
        x.swap(5, 7);
        x.run(5, 0, 0, 0);
        x.run(7, 0, 0, 0);
        return x;
    }

    // ---- promise 22

    private static void bestSwap() {
        Due.test("22 NONE, if there is none", EdgesOfWhatWouldBeTest::noBestSwap);
        Due.test("22 if that is fewer than now", EdgesOfWhatWouldBeTest::noFewerDoubles);
        Due.test("22 leaves the fewest DOUBLES", EdgesOfWhatWouldBeTest::fewestDoubles);
        Due.test("22 of several that with the smaller first RUN", EdgesOfWhatWouldBeTest::smallerFirst);
        Due.test("22 then the second one", EdgesOfWhatWouldBeTest::smallerSecond);
        Due.test("22 the two RUNS that stand", EdgesOfWhatWouldBeTest::bestSwapOfStanding);
        Due.test("22 the last two of 20", EdgesOfWhatWouldBeTest::bestSwapOfLast);
        Due.test("22 what would be (nothing is changed)", EdgesOfWhatWouldBeTest::bestSwapChangesNothing);
    }

    private static void best(String what, Grainclock x, int first, int second) {
        Due.same(what + ", first", x.bestSwap(true), first);
        Due.same(what + ", second", x.bestSwap(false), second);
    }

    private static void noBestSwap() {
        best("without a RUN", new Grainclock(), -1, -1);
        best("without DOUBLES", Labs.threeGrains(), -1, -1);
        Grainclock x = heated(0, 0);
        best("of one RUN", x, -1, -1);
        x.heat(0, 100);
        x.run(0, 0, 0, 0);
        Due.same("DOUBLES of one LABEL", x.lab(5), 1);
        best("of one LABEL", x, -1, -1);
    }

    private static void noFewerDoubles() {
        Grainclock x = heated(0, 0, 0);
        x.heat(0, 100);
        x.run(0, 0, 0, 0);
        Due.same("a double of 3 years and of none", x.lab(5), 1);
        best("of 3 years with another one of 3", x, 1, 2);
        Grainclock y = heated(0, 0, 0);
        y.heat(0, 100);
        y.run(0, 0, 0, 0);
        y.heat(1, 100);
        y.run(1, 0, 0, 0);
        // Labels of 3 0 and of 3 0: to swap 3 with 0 leaves none.
        Due.same("two doubles", y.lab(5), 2);
        best("of both", y, 0, 3);
        y.run(0, 0, 0, 0);
        y.run(1, 0, 0, 0);
        y.withdraw(0);
        Due.same("one double is left", y.lab(5), 2);
        y.withdraw(4);
        y.withdraw(5);
        y.withdraw(3);
        best("none is left", y, -1, -1);
    }

    private static void fewestDoubles() {
        Grainclock x = heated(0, 0, 0, 0);
        x.heat(0, 100);
        x.run(0, 0, 0, 0);
        x.run(0, 0, 0, 0);
        x.heat(1, 100);
        x.run(1, 0, 0, 0);
        x.run(1, 0, 0, 0);
        // 3 0 0, 3 0 0 and 3: 4 doubles; 0 with 1 stays 4, 0 with 4 leaves 0 0 0 and 3 3 0.
        Due.same("DOUBLES", x.lab(5), 4);
        best("2 of 4 are left", x, 0, 5);
        Due.same("by that", x.swap(0, 5), 2);
    }

    private static void smallerFirst() {
        Grainclock x = Labs.threeGrains();
        x.swap(0, 5);
        // Runs 1 and 5 of the label 0, 0 and 4 of the label 2: both 0 with 5 and 1 with 4 leave none.
        Due.same("DOUBLES", x.lab(5), 2);
        best("0 with 5, not 1 with 4", x, 0, 5);
        x.swap(0, 5);
        x.swap(1, 4);
        best("0 with 5, though 1 with 4 was swapped", x, 0, 5);
        Grainclock y = Labs.threeGrains();
        y.swap(0, 4);
        best("0 with 4, not 1 with 5", y, 0, 4);
    }

    /** Run 0 of 1 year, 1 and 2 of 6 on label 0; 3 and 4 of 6 years, 5 to 7 of 1 on label 1; run 8 is withdrawn. */
    private static Grainclock twoSeconds() {
        Grainclock x = Labs.halving();
        x.grain(1024, 0, 0);
        x.pass(5);
        x.grain(64, 0, 0);
        x.pass(1);
        x.run(1, 0, 0, 0);
        for (int run = 1; run < 5; run++) {
            x.run(0, 0, 0, 0);
        }
        for (int run = 5; run < 9; run++) {
            x.run(1, 0, 0, 0);
        }
        x.swap(0, 3);
        x.swap(4, 8);
        x.withdraw(8);
        return x;
    }

    private static void smallerSecond() {
        Grainclock x = twoSeconds();
        Due.same("DOUBLES", x.lab(5), 8);
        best("0 with 3, not with 4", x, 0, 3);
        Due.same("0 with 4 leaves as many", x.swap(0, 4), 4);
        Due.same("and back", x.swap(0, 4), 8);
        Due.same("as 0 with 3", x.swap(0, 3), 4);
    }

    private static void bestSwapOfStanding() {
        Grainclock x = twoSeconds();
        x.withdraw(3);
        best("3 is withdrawn", x, 0, 4);
        x.withdraw(4);
        // Label 0 has 1 6 6, label 1 has 1 1 1: no swap leaves fewer than 2.
        Due.same("DOUBLES", x.lab(5), 2);
        best("3 and 4 are withdrawn", x, -1, -1);
        Grainclock y = twoSeconds();
        y.withdraw(0);
        // Label 0 has 6 6, label 1 has 6 6 1 1 1.
        Due.same("DOUBLES without 0", y.lab(5), 6);
        best("0 is withdrawn", y, -1, -1);
    }

    private static void bestSwapOfLast() {
        Grainclock x = Labs.halving();
        x.grain(64, 0, 0);
        x.grain(64, 0, 0);
        for (int run = 0; run < 9; run++) {
            x.run(0, 0, 0, 0);
            x.run(1, 0, 0, 0);
        }
        x.pass(2);
        x.heat(0, 100);
        x.run(0, 0, 0, 0);
        x.run(1, 0, 0, 0);
        Due.same("one of other years", x.lab(5), 9);
        best("it is as wrong with the other label", x, -1, -1);
        x.grain(64, 0, 0);
        for (int run = 0; run < 18; run++) {
            if (run % 2 == 1) {
                x.withdraw(run);
            }
        }
        Due.same("the last is alone", x.ofGrain(1, 9), 1);
        best("the last two", x, 18, 19);
    }

    private static void bestSwapChangesNothing() {
        Grainclock x = Labs.threeGrains();
        x.swap(0, 4);
        long before = x.digest();
        best("best", x, 0, 4);
        Due.same("digest", x.digest(), before);
        Due.same("the label", x.ofRun(0, 0), 2);
    }

    // ---- promise 23

    private static void changed() {
        Due.test("23 clock is not 0 or 1", EdgesOfWhatWouldBeTest::changedClocks);
        Due.test("23 pace is not 2 to 200", EdgesOfWhatWouldBeTest::changedPaces);
        Due.test("23 the exception that is named first", EdgesOfWhatWouldBeTest::changedNamesFirst);
        Due.test("23 would not meet that of now", EdgesOfWhatWouldBeTest::changedEdge);
        Due.test("23 by the same PACE: those whose EARLY is above LATE", EdgesOfWhatWouldBeTest::changedBySame);
        Due.test("23 RUNS of it that stand", EdgesOfWhatWouldBeTest::changedOfStanding);
        Due.test("23 what would be (nothing is changed)", EdgesOfWhatWouldBeTest::changedChangesNothing);
    }

    private static void changedClocks() {
        Due.same("0", Labs.threeGrains().changed(0, 3), 3);
        Due.same("1", Labs.threeGrains().changed(1, 3), 3);
        Due.refusesBusy("-1", Due.BAD_INDEX, x -> x.changed(-1, 3));
        Due.refusesBusy("2", Due.BAD_INDEX, x -> x.changed(2, 3));
        Due.refusesBusy("the least", Due.BAD_INDEX, x -> x.changed(Due.LEAST, 3));
        Due.refusesBusy("the most", Due.BAD_INDEX, x -> x.changed(Due.MOST, 3));
    }

    private static void changedPaces() {
        Due.same("2", Labs.threeGrains().changed(0, 2), 0);
        Due.same("200", Labs.threeGrains().changed(0, 200), 3);
        Due.refusesBusy("1", Due.BAD_ARGUMENT, x -> x.changed(0, 1));
        Due.refusesBusy("201", Due.BAD_ARGUMENT, x -> x.changed(0, 201));
        Due.refusesBusy("0", Due.BAD_ARGUMENT, x -> x.changed(1, 0));
        Due.refusesBusy("-1", Due.BAD_ARGUMENT, x -> x.changed(1, -1));
        Due.refusesBusy("the least", Due.BAD_ARGUMENT, x -> x.changed(0, Due.LEAST));
        Due.refusesBusy("the most", Due.BAD_ARGUMENT, x -> x.changed(1, Due.MOST));
    }

    private static void changedNamesFirst() {
        Due.refusesBusy("-1, of 1", Due.BAD_INDEX, x -> x.changed(-1, 1));
        Due.refusesBusy("2, of 201", Due.BAD_INDEX, x -> x.changed(2, 201));
    }

    /** A run of 4 and 12 by this slip. */
    private static Grainclock fourAndTwelve(int slip) {
        Grainclock x = Labs.halving();
        x.grain(16, 16, 0);
        x.pass(2);
        x.slip(slip);
        x.run(0, 0, 0, 0);
        return x;
    }

    private static void changedEdge() {
        // By a slip of 2 with 6 to come to and 2 to stay above: 16 8 4 2 1 is 2 to 3.
        Grainclock x = fourAndTwelve(2);
        Due.facts("of now", Labs.ofRun(x, 0), 0, 0, 4, 12, 2, 2, 3);
        // 16 11 8 6
        Due.same("EARLY 3 meets LATE 3 of now", x.changed(0, 3), 0);
        // 16 12 9 7 6
        Due.same("EARLY 4 does not", x.changed(0, 4), 1);
        x.pace(0, 3);
        Due.same("EARLY 3 of now meets LATE 3", x.changed(0, 2), 0);
        x.pace(0, 4);
        Due.same("EARLY 4 of now does not", x.changed(0, 2), 1);
        x.pass(100);
        Due.same("also years later", x.changed(0, 2), 1);
        x.pace(0, 3);
        Due.same("and as little", x.changed(0, 2), 0);
        Due.same("by a slip of 0", fourAndTwelve(0).changed(0, 3), 1);
    }

    private static void changedBySame() {
        Grainclock x = Labs.threeGrains();
        Due.same("none", x.changed(0, 2), 0);
        x.pace(0, 3);
        Due.facts("EARLY above LATE", Labs.ofRun(x, 0), 0, 0, 16, 1008, 0, 11, 10);
        Due.facts("EARLY above LATE too", Labs.ofRun(x, 4), 2, 0, 32, 32, 0, 2, 1);
        Due.same("all three by the same", x.changed(0, 3), 3);
        Due.same("none of the other clock", x.changed(1, 2), 0);
        x.withdraw(0);
        Due.same("two that stand", x.changed(0, 3), 2);
    }

    private static void changedOfStanding() {
        Grainclock x = Labs.full();
        Due.same("12 of the clock 0", x.changed(0, 200), 12);
        Due.same("8 of the clock 1", x.changed(1, 200), 8);
        x.withdraw(8);
        x.withdraw(19);
        Due.same("11 that stand", x.changed(0, 200), 11);
        Due.same("7 that stand", x.changed(1, 200), 7);
        Due.same("without a RUN", new Grainclock().changed(0, 200), 0);
    }

    private static void changedChangesNothing() {
        Grainclock x = Labs.busy();
        long before = x.digest();
        Due.same("changed", x.changed(0, 3), 3);
        Due.same("digest", x.digest(), before);
        Due.same("PACE", x.lab(8), 2);
    }

    // ---- promise 24

    private static void wider() {
        Due.test("24 no such GRAIN, or RUN", EdgesOfWhatWouldBeTest::widerNumbers);
        Due.test("24 if it is WITHDRAWN", EdgesOfWhatWouldBeTest::widerWithdrawn);
        Due.test("24 the exception that is named first", EdgesOfWhatWouldBeTest::widerNamesFirst);
        Due.test("24 0, if it has another LABEL", EdgesOfWhatWouldBeTest::widerOtherLabel);
        Due.test("24 LATE less EARLY, which may be below 0", EdgesOfWhatWouldBeTest::widerFromQuarrel);
        Due.test("24 by both CLOCKS", EdgesOfWhatWouldBeTest::widerByBoth);
        Due.test("24 LATE: 3000 at most, also without one", EdgesOfWhatWouldBeTest::widerAtMost);
        Due.test("24 what would be (nothing is changed)", EdgesOfWhatWouldBeTest::widerChangesNothing);
    }

    private static void widerNumbers() {
        Due.same("the last of both", Labs.full().wider(7, 15), 0);
        Due.same("the last run", Labs.full().wider(3, 19), 0);
        Due.refusesBusy("grain -1", Due.BAD_INDEX, x -> x.wider(-1, 0));
        Due.refusesBusy("grain 3 of 3", Due.BAD_INDEX, x -> x.wider(3, 0));
        Due.refusesBusy("run -1", Due.BAD_INDEX, x -> x.wider(0, -1));
        Due.refusesBusy("run 6 of 6", Due.BAD_INDEX, x -> x.wider(0, 6));
        Due.refusesBusy("the least grain", Due.BAD_INDEX, x -> x.wider(Due.LEAST, 0));
        Due.refusesBusy("the most of runs", Due.BAD_INDEX, x -> x.wider(0, Due.MOST));
    }

    private static void widerWithdrawn() {
        Due.refusesBusy("of its label", Due.BAD_STATE, x -> x.wider(1, 3));
        Due.refusesBusy("of another label", Due.BAD_STATE, x -> x.wider(0, 3));
    }

    private static void widerNamesFirst() {
        Due.refusesBusy("no grain, and withdrawn", Due.BAD_INDEX, x -> x.wider(3, 3));
        Due.refusesBusy("neither grain nor run", Due.BAD_INDEX, x -> x.wider(-1, 6));
    }

    private static void widerOtherLabel() {
        Grainclock x = Labs.threeGrains();
        x.withdraw(1);
        Due.same("its own", x.wider(0, 0), 3000);
        Due.same("another one", x.wider(1, 0), 0);
        Due.same("another one too", x.wider(2, 0), 0);
        x.swap(0, 2);
        Due.same("its own no more", x.wider(0, 0), 0);
        Due.same("its own of now", x.wider(1, 0), 3);
    }

    private static void widerFromQuarrel() {
        Grainclock x = Labs.threeGrains();
        x.swap(0, 4);
        Due.facts("6 to 1", Labs.span(x, 0, -1), 6, 1, 1);
        Due.same("from -5 to 0", x.wider(0, 4), 5);
        Due.same("from -5 to 0 by the other one", x.wider(0, 1), 5);
        x.withdraw(4);
        Due.same("from 0 to 3000", x.wider(0, 1), 3000);
        Grainclock y = heated(0, 0);
        y.run(0, 0, 0, 0);
        y.heat(0, 100);
        y.run(0, 0, 0, 0);
        y.run(0, 1, 0, 0);
        Due.same("from -3 to -3", y.wider(0, 0), 0);
        y.withdraw(0);
        Due.same("from -3 to 0", y.wider(0, 1), 3);
    }

    private static void widerByBoth() {
        Grainclock x = Labs.threeGrains();
        Due.same("the other clock tells the same", x.wider(0, 0), 0);
        x.withdraw(1);
        Due.same("the last one", x.wider(0, 0), 3000);
        Grainclock y = fourAndTwelve(2);
        y.slip(0);
        y.run(0, 1, 0, 0);
        Due.facts("2 to 3 and 2 to 2", Labs.span(y, 0, -1), 2, 2, 0);
        Due.same("without 2 to 3", y.wider(0, 0), 0);
        Due.same("without 2 to 2", y.wider(0, 1), 1);
    }

    private static void widerAtMost() {
        Grainclock x = Labs.old();
        Due.facts("3000 to 3000", Labs.span(x, 0, -1), 3000, 3000, 0);
        Due.same("the last one", x.wider(0, 0), 3000);
        x.wash(0, 100);
        x.run(0, 0, 0, 0);
        Due.facts("3000 to 3000 too", Labs.ofRun(x, 1), 0, 0, 0, 1023, 0, 3000, 3000);
        Due.same("one of two", x.wider(0, 0), 0);
        Grainclock y = fourAndTwelve(9);
        y.pass(1);
        Due.facts("2 to 3001", Labs.ofRun(y, 0), 0, 0, 4, 12, 9, 2, 3001);
        Due.same("from 2998 to 3000", y.wider(0, 0), 2);
    }

    private static void widerChangesNothing() {
        Grainclock x = Labs.busy();
        long before = x.digest();
        Due.same("wider", x.wider(0, 4), 5);
        Due.same("digest", x.digest(), before);
        Due.same("it stands", x.ofRun(4, 7), 1);
    }

    // ---- promise 25

    private static void isSound() {
        Due.test("25 MOTHERS, DAUGHTERS and GONE are those with which it was born", EdgesOfWhatWouldBeTest::soundMotes);
        Due.test("25 SOUND: empty, full, old", EdgesOfWhatWouldBeTest::soundAtEnds);
        Due.test("25 SOUND: with all in QUARREL, and all withdrawn", EdgesOfWhatWouldBeTest::soundInQuarrel);
    }

    private static void soundMotes() {
        Grainclock x = new Grainclock();
        x.grain(9999, 8888, 0);
        x.grain(0, 1, 5);
        for (int k = 0; k < 20; k++) {
            x.pass(7);
            x.heat(0, 3 + k);
            x.wash(0, 2 + k);
            x.pace(k % 2, 2 + 9 * k);
            int[] all = Labs.ofGrain(x, 0);
            Due.same("the clock 0, " + k, all[0] + all[1] + all[2], 9999);
            Due.same("the clock 1, " + k, all[3] + all[4] + all[5], 8888);
            Due.same("isSound, " + k, x.isSound(), true);
        }
    }

    private static void soundAtEnds() {
        Due.same("empty", new Grainclock().isSound(), true);
        Due.same("full", Labs.full().isSound(), true);
        Due.same("old", Labs.old().isSound(), true);
        Due.same("busy", Labs.busy().isSound(), true);
        Grainclock x = Labs.full();
        x.pace(0, 3);
        Due.same("with all prints fallen", x.isSound(), true);
    }

    private static void soundInQuarrel() {
        Grainclock x = heated(0, 0, 1, 2, 3, 4, 5, 0, 1);
        for (int grain = 0; grain < 8; grain++) {
            x.heat(grain, 100);
            x.run(grain, 1, 0, 0);
        }
        Due.same("all in QUARREL", x.isSound(), true);
        for (int run = 0; run < 16; run++) {
            x.withdraw(run);
        }
        Due.same("all withdrawn", x.isSound(), true);
    }

    // ---- promise 26

    private static void digest() {
        Due.test("26 wraps around as a 64-bit integer", EdgesOfWhatWouldBeTest::digestWraps);
        Due.test("26 of a lab without GRAINS", EdgesOfWhatWouldBeTest::digestOfEmpty);
        Due.test("26 RUN by RUN, PRINT by PRINT, all places taken", EdgesOfWhatWouldBeTest::digestOfFull);
        Due.test("26 ofPrint() of 1 to 4", EdgesOfWhatWouldBeTest::digestWithoutRunOfPrint);
        Due.test("26 each number tells", EdgesOfWhatWouldBeTest::digestTells);
    }

    /** The sum of so many numbers without any wrapping. */
    private static BigInteger unbounded(int... numbers) {
        BigInteger d = BigInteger.valueOf(3643);
        for (int v : numbers) {
            d = d.multiply(BigInteger.valueOf(31)).add(BigInteger.valueOf(v));
        }
        return d;
    }

    private static void digestWraps() {
        BigInteger empty = unbounded(0, 0, 0, 0, 2, 0, 0, 0, 20, 50, 0, 0, -1, -1, 1);
        Due.same("it does not fit in 64 bits", empty.bitLength() > 64, true);
        Due.same("an empty lab", new Grainclock().digest(), empty.longValue());
        Grainclock x = new Grainclock();
        x.grain(9999, 9999, 5);
        BigInteger one = unbounded(0, 1, 0, 0, 2, 0, 0, 0, 20, 50, 19998,
            9999, 0, 0, 9999, 0, 0, 0, 5, 0, 0, 0, 3000, 0, 3000, 0, -1, -1, 1);
        Due.same("one grain", x.digest(), one.longValue());
        x.slip(0);
        x.run(0, 1, 0, 0);
        x.print(0, -1);
        BigInteger all = unbounded(0, 1, 1, 1, 0, 0, 0, 0, 20, 50, 19998,
            9999, 0, 0, 9999, 0, 0, 0, 5, 0, 1, 0, 0, 0, 0, 0, 1, 9999, 0, 0, 0, 0, 1, 50, -1, 1, 0, 0, -1, -1, 1);
        Due.same("a grain, a run and a print", x.digest(), all.longValue());
    }

    private static void digestOfEmpty() {
        Due.same("empty", new Grainclock().digest(), Labs.digestOf(new Grainclock()));
        Due.same("two of them", new Grainclock().digest(), new Grainclock().digest());
        Grainclock x = new Grainclock();
        x.pass(1);
        Due.same("a year later", x.digest(), Labs.digestOf(x));
    }

    private static void digestOfFull() {
        Grainclock x = Labs.full();
        Due.same("full", x.digest(), Labs.digestOf(x));
        Grainclock y = Labs.full();
        y.swap(0, 7);
        y.withdraw(4);
        y.pace(1, 3);
        y.heat(6, 50);
        Due.same("with all that can happen", y.digest(), Labs.digestOf(y));
        Grainclock z = Labs.old();
        Due.same("old", z.digest(), Labs.digestOf(z));
    }

    private static void digestWithoutRunOfPrint() {
        Grainclock x = Labs.threeGrains();
        Grainclock y = Labs.threeGrains();
        x.print(0, -1);
        y.print(5, -1);
        Due.same("the RUN of a print is no part of it", x.digest(), y.digest());
        Due.same("though it is told", x.ofPrint(0, 0) == y.ofPrint(0, 0), false);
    }

    private static void digestTells() {
        tells("pass", x -> x.pass(1));
        tells("grain", x -> x.grain(0, 0, 0));
        tells("heat", x -> x.heat(0, 0));
        tells("wash", x -> x.wash(0, 0));
        tells("pace", x -> x.pace(0, 3));
        tells("slip", x -> x.slip(3));
        tells("run", x -> x.run(0, 0, 0, 0));
        tells("withdraw", x -> x.withdraw(1));
        tells("swap", x -> x.swap(1, 4));
        tells("print", x -> x.print(0, -1));
    }

    private static void tells(String what, Due.CallOf call) {
        Grainclock x = Labs.threeGrains();
        long before = x.digest();
        call.on(x);
        Due.same(what + " is told", x.digest() == before, false);
    }
}
