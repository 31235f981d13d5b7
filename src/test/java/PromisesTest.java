/** Each promise of the document by answers that were worked out by hand. */
public final class PromisesTest {
    private PromisesTest() {
    }

    public static void main(String[] args) {
        promise1NewObject();
        promise2Grain();
        promise2GrainRefuses();
        promise3Pass();
        promise3PassRefuses();
        promise4Heat();
        promise5Wash();
        promise6Pace();
        promise6PaceOfRuns();
        promise7Slip();
        promise8Run();
        promise8RunRefuses();
        promise9Withdraw();
        promise10Swap();
        promise11Print();
        promise12OfGrain();
        promise13OfRun();
        promise13SpanOfRun();
        promise13SpanGrowsWithYears();
        promise13SlipOfDaughters();
        promise14Span();
        promise15Narrowed();
        promise16OfPrint();
        promise17Lab();
        promise18Text();
        promise19Left();
        promise20Age();
        promise21Fewest();
        promise21FewestOfSeveral();
        promise21FewestByBeds();
        promise21FewestBySpans();
        promise22Doubles();
        promise22BestSwap();
        promise22BestSwapOfSeveral();
        promise23Changed();
        promise23ChangedWithSlip();
        promise24Wider();
        promise25IsSound();
        promise26Digest();
        Due.end();
    }

    private static void promise1NewObject() {
        Grainclock x = new Grainclock();
        Due.facts("1 lab", Labs.lab(x), 0, 0, 0, 0, 2, 0, 0, 0, 20, 50, 0);
        Due.same("1 fewest", x.fewest(), 0);
        Due.same("1 bestSwap first", x.bestSwap(true), -1);
        Due.same("1 bestSwap second", x.bestSwap(false), -1);
        Due.same("1 isSound", x.isSound(), true);
        Due.same("1 digest", x.digest(), Labs.digestOf(x));
        Due.refused("1 ofGrain(0, 0)", x, Due.BAD_INDEX, () -> x.ofGrain(0, 0));
        Due.refused("1 ofRun(0, 0)", x, Due.BAD_INDEX, () -> x.ofRun(0, 0));
        Due.refused("1 ofPrint(0, 0)", x, Due.BAD_INDEX, () -> x.ofPrint(0, 0));
        Grainclock y = new Grainclock();
        y.grain(5, 5, 0);
        Due.same("1 objects are apart", x.lab(1), 0);
    }

    private static void promise2Grain() {
        Grainclock x = new Grainclock();
        Due.same("2 first grain", x.grain(0, 9999, 0), 0);
        x.pass(10);
        Due.same("2 second grain", x.grain(9999, 0, 5), 1);
        Due.facts("2 ofGrain(1)", Labs.ofGrain(x, 1), 9999, 0, 0, 0, 0, 0, 0, 5, 0, 0);
        for (int grain = 2; grain < 8; grain++) {
            Due.same("2 grain " + grain, x.grain(grain, 10 * grain, 3), grain);
        }
        Due.facts("2 ofGrain(7)", Labs.ofGrain(x, 7), 7, 0, 0, 70, 0, 0, 0, 3, 0, 0);
        Due.same("2 eight grains", x.lab(1), 8);
        Due.refused("2 ninth grain", x, Due.BAD_STATE, () -> x.grain(0, 0, 0));
        Due.refused("2 ninth grain with a bad bed", x, Due.BAD_ARGUMENT, () -> x.grain(0, 0, 6));
    }

    private static void promise2GrainRefuses() {
        Grainclock x = new Grainclock();
        Due.refused("2 first below", x, Due.BAD_ARGUMENT, () -> x.grain(-1, 0, 0));
        Due.refused("2 first above", x, Due.BAD_ARGUMENT, () -> x.grain(10000, 0, 0));
        Due.refused("2 second below", x, Due.BAD_ARGUMENT, () -> x.grain(0, -1, 0));
        Due.refused("2 second above", x, Due.BAD_ARGUMENT, () -> x.grain(0, 10000, 0));
        Due.refused("2 bed below", x, Due.BAD_ARGUMENT, () -> x.grain(0, 0, -1));
        Due.refused("2 bed above", x, Due.BAD_ARGUMENT, () -> x.grain(0, 0, 6));
        Due.refused("2 far below", x, Due.BAD_ARGUMENT, () -> x.grain(Due.LEAST, Due.LEAST, Due.LEAST));
        Due.refused("2 far above", x, Due.BAD_ARGUMENT, () -> x.grain(Due.MOST, Due.MOST, Due.MOST));
        Due.same("2 number after refusals", x.grain(1, 1, 1), 0);
    }

    private static void promise3Pass() {
        Grainclock x = new Grainclock();
        x.grain(100, 100, 0);
        Due.same("3 pass(1)", x.pass(1), 1);
        Due.facts("3 behind 1", Labs.ofGrain(x, 0), 95, 5, 0, 98, 2, 0, 1);
        Due.same("3 pass(1) again", x.pass(1), 2);
        Due.facts("3 behind 2", Labs.ofGrain(x, 0), 91, 9, 0, 97, 3, 0, 2);
        x.grain(40, 49, 0);
        Due.same("3 pass(2)", x.pass(2), 4);
        Due.facts("3 behind 4", Labs.ofGrain(x, 0), 83, 17, 0, 95, 5, 0, 4);
        Due.facts("3 younger grain", Labs.ofGrain(x, 1), 37, 3, 0, 49, 0, 0, 2);
        Due.same("3 pass(300)", x.pass(300), 304);
        Due.facts("3 none turns below the pace", Labs.ofGrain(x, 0), 19, 81, 0, 49, 51, 0, 304);
    }

    private static void promise3PassRefuses() {
        Grainclock x = new Grainclock();
        Due.refused("3 pass(0)", x, Due.BAD_ARGUMENT, () -> x.pass(0));
        Due.refused("3 pass(-1)", x, Due.BAD_ARGUMENT, () -> x.pass(-1));
        Due.refused("3 pass(301)", x, Due.BAD_ARGUMENT, () -> x.pass(301));
        Due.refused("3 pass(least)", x, Due.BAD_ARGUMENT, () -> x.pass(Due.LEAST));
        Due.refused("3 pass(most)", x, Due.BAD_ARGUMENT, () -> x.pass(Due.MOST));
        x.grain(9000, 9000, 0);
        for (int k = 1; k <= 9; k++) {
            Due.same("3 pass(300) " + k, x.pass(300), 300 * k);
        }
        Due.same("3 pass(299)", x.pass(299), 2999);
        Due.refused("3 beyond 3000", x, Due.BAD_STATE, () -> x.pass(2));
        Due.same("3 up to 3000", x.pass(1), 3000);
        Due.refused("3 at 3000", x, Due.BAD_STATE, () -> x.pass(1));
        Due.refused("3 at 3000, and too many", x, Due.BAD_ARGUMENT, () -> x.pass(301));
        Due.same("3 AGE at the end", x.ofGrain(0, 6), 3000);
    }

    private static void promise4Heat() {
        Grainclock x = new Grainclock();
        x.pace(0, 2);
        x.grain(100, 100, 0);
        x.grain(100, 100, 0);
        x.pass(1);
        Due.same("4 half", x.heat(0, 50), 26);
        Due.facts("4 ofGrain", Labs.ofGrain(x, 0), 50, 25, 25, 98, 1, 1, 1, 0, 1);
        Due.same("4 each is rounded down", x.heat(0, 50), 12);
        Due.facts("4 ofGrain again", Labs.ofGrain(x, 0), 50, 13, 37, 98, 1, 1, 1, 0, 1);
        Due.same("4 all", x.heat(0, 100), 14);
        Due.facts("4 ofGrain at last", Labs.ofGrain(x, 0), 50, 0, 50, 98, 0, 2, 1, 0, 1);
        Due.same("4 the other grain is not touched", x.ofGrain(1, 8), 0);
        Due.same("4 none", x.heat(1, 0), 0);
        Due.facts("4 touched by none", Labs.ofGrain(x, 1), 50, 50, 0, 98, 2, 0, 1, 0, 1);
        Due.refused("4 no such grain", x, Due.BAD_INDEX, () -> x.heat(2, 10));
        Due.refused("4 grain -1", x, Due.BAD_INDEX, () -> x.heat(-1, 10));
        Due.refused("4 no such grain or share", x, Due.BAD_INDEX, () -> x.heat(2, 101));
        Due.refused("4 share below", x, Due.BAD_ARGUMENT, () -> x.heat(0, -1));
        Due.refused("4 share above", x, Due.BAD_ARGUMENT, () -> x.heat(0, 101));
        Grainclock y = new Grainclock();
        y.grain(1, 1, 0);
        Due.refused("4 a refused share touches nothing", y, Due.BAD_ARGUMENT, () -> y.heat(0, 101));
        Due.same("4 not touched", y.ofGrain(0, 8), 0);
    }

    private static void promise5Wash() {
        Grainclock x = new Grainclock();
        x.pace(0, 2);
        x.grain(199, 51, 0);
        x.grain(10, 10, 0);
        x.pass(1);
        Due.same("5 half", x.wash(0, 50), 75);
        Due.facts("5 ofGrain", Labs.ofGrain(x, 0), 50, 99, 50, 25, 1, 25, 1, 0, 1);
        Due.same("5 each is rounded down", x.wash(0, 3), 1);
        Due.facts("5 ofGrain again", Labs.ofGrain(x, 0), 49, 99, 51, 25, 1, 25, 1, 0, 1);
        Due.same("5 all", x.wash(0, 100), 74);
        Due.facts("5 ofGrain at last", Labs.ofGrain(x, 0), 0, 99, 100, 0, 1, 50, 1, 0, 1);
        Due.same("5 the other grain is not touched", x.ofGrain(1, 8), 0);
        Due.same("5 none", x.wash(1, 0), 0);
        Due.facts("5 touched by none", Labs.ofGrain(x, 1), 5, 5, 0, 10, 0, 0, 1, 0, 1);
        Due.refused("5 no such grain", x, Due.BAD_INDEX, () -> x.wash(2, 10));
        Due.refused("5 grain -1", x, Due.BAD_INDEX, () -> x.wash(-1, 10));
        Due.refused("5 no such grain or share", x, Due.BAD_INDEX, () -> x.wash(2, -1));
        Due.refused("5 share below", x, Due.BAD_ARGUMENT, () -> x.wash(0, -1));
        Due.refused("5 share above", x, Due.BAD_ARGUMENT, () -> x.wash(0, 101));
    }

    private static void promise6Pace() {
        Grainclock x = new Grainclock();
        x.grain(100, 100, 0);
        x.pass(1);
        Due.same("6 pace(0, 10)", x.pace(0, 10), 20);
        Due.same("6 pace(1, 200)", x.pace(1, 200), 50);
        Due.facts("6 what turned stays", Labs.ofGrain(x, 0), 95, 5, 0, 98, 2, 0);
        x.pass(1);
        Due.facts("6 turns by the new pace", Labs.ofGrain(x, 0), 86, 14, 0, 98, 2, 0);
        Due.same("6 pace(1, 2)", x.pace(1, 2), 200);
        Due.same("6 pace(0, 10) again", x.pace(0, 10), 10);
        Due.same("6 pace of the clock 0", x.lab(8), 10);
        Due.same("6 pace of the clock 1", x.lab(9), 2);
        Due.refused("6 clock -1", x, Due.BAD_INDEX, () -> x.pace(-1, 20));
        Due.refused("6 clock 2", x, Due.BAD_INDEX, () -> x.pace(2, 20));
        Due.refused("6 no such clock or pace", x, Due.BAD_INDEX, () -> x.pace(2, 1));
        Due.refused("6 pace below", x, Due.BAD_ARGUMENT, () -> x.pace(0, 1));
        Due.refused("6 pace 0", x, Due.BAD_ARGUMENT, () -> x.pace(1, 0));
        Due.refused("6 pace above", x, Due.BAD_ARGUMENT, () -> x.pace(0, 201));
        Due.same("6 pace(0, 200)", x.pace(0, 200), 10);
        Due.same("6 pace(0, 2)", x.pace(0, 2), 200);
    }

    private static void promise6PaceOfRuns() {
        Grainclock x = Labs.halving();
        x.grain(1024, 1024, 0);
        x.pass(3);
        x.run(0, 0, 0, 0);
        x.run(0, 1, 0, 0);
        x.run(0, 0, 0, 0);
        x.withdraw(2);
        x.pace(0, 3);
        // 1024 683 456 304 203 136 91 by a pace of 3.
        Due.same("6 EARLY by the new pace", x.ofRun(0, 5), 6);
        Due.same("6 LATE by the new pace", x.ofRun(0, 6), 5);
        Due.same("6 EARLY of the other clock", x.ofRun(1, 5), 3);
        Due.same("6 LATE of the other clock", x.ofRun(1, 6), 3);
        Due.same("6 also of a run that is withdrawn", x.ofRun(2, 5), 6);
        Due.same("6 the table too", x.left(0, 1024, 5), 136);
        x.pace(0, 2);
        Due.same("6 EARLY by the old pace", x.ofRun(0, 5), 3);
    }

    private static void promise7Slip() {
        Grainclock x = new Grainclock();
        Due.same("7 slip(9)", x.slip(9), 2);
        x.grain(100, 100, 0);
        x.run(0, 0, 9, -9);
        Due.same("7 slip(0)", x.slip(0), 9);
        x.run(0, 0, 0, 0);
        Due.same("7 slip(0) again", x.slip(0), 0);
        Due.same("7 SLIP of then", x.ofRun(0, 4), 9);
        Due.same("7 SLIP of now", x.ofRun(1, 4), 0);
        Due.same("7 SLIP of the machine", x.lab(4), 0);
        Due.refused("7 slip(-1)", x, Due.BAD_ARGUMENT, () -> x.slip(-1));
        Due.refused("7 slip(10)", x, Due.BAD_ARGUMENT, () -> x.slip(10));
        Due.refused("7 slip(least)", x, Due.BAD_ARGUMENT, () -> x.slip(Due.LEAST));
        Due.same("7 slip(5)", x.slip(5), 0);
    }

    private static void promise8Run() {
        Grainclock x = new Grainclock();
        x.grain(100, 50, 0);
        x.grain(1, 0, 0);
        x.pass(1);
        Due.same("8 run 0", x.run(0, 0, 2, -2), 0);
        Due.facts("8 ofRun(0)", Labs.ofRun(x, 0), 0, 0, 97, 3, 2);
        Due.same("8 run 1", x.run(0, 1, -1, 1), 1);
        Due.facts("8 ofRun(1)", Labs.ofRun(x, 1), 0, 1, 48, 2, 2);
        Due.same("8 run 2", x.run(1, 0, -2, -2), 2);
        Due.facts("8 never below 0", Labs.ofRun(x, 2), 1, 0, 0, 0, 2);
        Due.same("8 run 3", x.run(1, 1, 2, 2), 3);
        Due.facts("8 ofRun(3)", Labs.ofRun(x, 3), 1, 1, 2, 2, 2);
        Due.same("8 a run stands", x.ofRun(3, 7), 1);
        Due.facts("8 the grain is as it was", Labs.ofGrain(x, 0), 95, 5, 0, 49, 1, 0, 1, 0, 0, 2);
        x.heat(0, 100);
        x.run(0, 0, 0, 0);
        Due.facts("8 behind heat", Labs.ofRun(x, 4), 0, 0, 95, 0, 2);
        x.pass(1);
        Due.facts("8 what was counted stays", Labs.ofRun(x, 0), 0, 0, 97, 3, 2);
    }

    private static void promise8RunRefuses() {
        Grainclock x = new Grainclock();
        Due.refused("8 no grain", x, Due.BAD_INDEX, () -> x.run(0, 0, 0, 0));
        x.grain(100, 100, 0);
        Due.refused("8 grain -1", x, Due.BAD_INDEX, () -> x.run(-1, 0, 0, 0));
        Due.refused("8 grain 1", x, Due.BAD_INDEX, () -> x.run(1, 0, 0, 0));
        Due.refused("8 clock -1", x, Due.BAD_INDEX, () -> x.run(0, -1, 0, 0));
        Due.refused("8 clock 2", x, Due.BAD_INDEX, () -> x.run(0, 2, 0, 0));
        Due.refused("8 mothers below", x, Due.BAD_ARGUMENT, () -> x.run(0, 0, -3, 0));
        Due.refused("8 mothers above", x, Due.BAD_ARGUMENT, () -> x.run(0, 0, 3, 0));
        Due.refused("8 daughters below", x, Due.BAD_ARGUMENT, () -> x.run(0, 0, 0, -3));
        Due.refused("8 daughters above", x, Due.BAD_ARGUMENT, () -> x.run(0, 0, 0, 3));
        Due.refused("8 least", x, Due.BAD_ARGUMENT, () -> x.run(0, 0, Due.LEAST, Due.LEAST));
        Due.refused("8 no clock and a bad error", x, Due.BAD_INDEX, () -> x.run(0, 2, 3, 3));
        x.slip(0);
        Due.refused("8 beyond a slip of 0", x, Due.BAD_ARGUMENT, () -> x.run(0, 0, 1, 0));
        for (int run = 0; run < 20; run++) {
            Due.same("8 run " + run, x.run(0, run % 2, 0, 0), run);
        }
        Due.refused("8 a twenty-first run", x, Due.BAD_STATE, () -> x.run(0, 0, 0, 0));
        Due.refused("8 that, and a bad error", x, Due.BAD_ARGUMENT, () -> x.run(0, 0, 0, 1));
        Due.refused("8 that, and no grain", x, Due.BAD_INDEX, () -> x.run(1, 0, 0, 1));
        x.withdraw(0);
        Due.refused("8 withdrawn runs count", x, Due.BAD_STATE, () -> x.run(0, 0, 0, 0));
    }

    private static void promise9Withdraw() {
        Grainclock x = Labs.threeGrains();
        x.print(0, -1);
        x.print(1, 0);
        x.print(2, 1);
        x.print(3, -1);
        x.print(0, -1);
        Due.same("9 the top of a chain", x.withdraw(2), 1);
        Due.same("9 withdrawn", x.ofRun(2, 7), 0);
        Due.same("9 its span is no part of the grain's", x.span(1, 0, 1), 3000);
        Due.refused("9 withdrawn already", x, Due.BAD_STATE, () -> x.withdraw(2));
        Due.same("9 what fell does not fall again", x.withdraw(0), 3);
        Due.same("9 all on it fell", x.withdraw(1), 0);
        Due.same("9 another one stands", x.ofPrint(3, 3), 1);
        Due.same("9 a run without prints", x.withdraw(5), 0);
        x.pace(1, 7);
        Due.same("9 fallen by the pace", x.withdraw(3), 0);
        Due.refused("9 run -1", x, Due.BAD_INDEX, () -> x.withdraw(-1));
        Due.refused("9 run 6", x, Due.BAD_INDEX, () -> x.withdraw(6));
        Due.same("9 runs that stand", x.lab(2), 1);
    }

    private static void promise10Swap() {
        Grainclock x = Labs.threeGrains();
        Due.same("10 swap(0, 4)", x.swap(0, 4), 2);
        Due.same("10 LABEL of 0", x.ofRun(0, 0), 2);
        Due.same("10 LABEL of 4", x.ofRun(4, 0), 0);
        Due.facts("10 all else stays", Labs.ofRun(x, 0), 2, 0, 16, 1008, 0, 6, 6, 1);
        Due.same("10 swap(5, 1)", x.swap(5, 1), 0);
        Due.same("10 swap(2, 3) of one label", x.swap(2, 3), 0);
        Due.same("10 swap(2, 5)", x.swap(2, 5), 2);
        x.withdraw(2);
        Due.same("10 what is withdrawn is no double", x.lab(5), 1);
        Due.same("10 a withdrawn run has a label too", x.swap(2, 3), 1);
        Due.same("10 LABEL of 2", x.ofRun(2, 0), 1);
        Due.same("10 LABEL of 3", x.ofRun(3, 0), 0);
        Due.refused("10 run -1", x, Due.BAD_INDEX, () -> x.swap(-1, 0));
        Due.refused("10 run 6", x, Due.BAD_INDEX, () -> x.swap(0, 6));
        Due.refused("10 run 6 first", x, Due.BAD_INDEX, () -> x.swap(6, 0));
        Due.refused("10 neither is there", x, Due.BAD_INDEX, () -> x.swap(6, 6));
        Due.refused("10 both the same", x, Due.BAD_ARGUMENT, () -> x.swap(3, 3));
    }

    private static void promise11Print() {
        Grainclock x = Labs.threeGrains();
        Due.refused("11 on a print that is not there", x, Due.BAD_INDEX, () -> x.print(0, 0));
        Due.same("11 print 0", x.print(0, -1), 0);
        Due.same("11 print 1", x.print(3, 0), 1);
        Due.facts("11 ofPrint(1)", Labs.ofPrint(x, 1), 3, 2, 0, 1, 1);
        Due.refused("11 run -1", x, Due.BAD_INDEX, () -> x.print(-1, -1));
        Due.refused("11 run 6", x, Due.BAD_INDEX, () -> x.print(6, -1));
        Due.refused("11 on -2", x, Due.BAD_INDEX, () -> x.print(0, -2));
        Due.refused("11 on 2", x, Due.BAD_INDEX, () -> x.print(0, 2));
        x.withdraw(3);
        Due.refused("11 run withdrawn", x, Due.BAD_STATE, () -> x.print(3, -1));
        Due.refused("11 run withdrawn, and on none", x, Due.BAD_INDEX, () -> x.print(3, 2));
        Due.refused("11 on a fallen print", x, Due.BAD_STATE, () -> x.print(0, 1));
        x.pace(0, 9);
        Due.refused("11 on a print of another pace", x, Due.BAD_STATE, () -> x.print(1, 0));
        Due.same("11 by the new pace", x.print(0, -1), 2);
        Due.same("11 PACE of a print", x.ofPrint(2, 1), 9);
        x.pace(0, 2);
        Due.same("11 the pace is the same again", x.print(1, 0), 3);
        for (int print = 4; print < 10; print++) {
            Due.same("11 print " + print, x.print(4, print - 1), print);
        }
        Due.refused("11 an eleventh print", x, Due.BAD_STATE, () -> x.print(0, -1));
        Due.refused("11 that, and no run", x, Due.BAD_INDEX, () -> x.print(6, -1));
        Due.same("11 the chain", x.ofPrint(9, 4), 7);
    }

    private static void promise12OfGrain() {
        Grainclock x = Labs.threeGrains();
        Due.facts("12 ofGrain(0)", Labs.ofGrain(x, 0), 16, 1008, 0, 16, 1008, 0, 6, 0, 0, 2);
        Due.facts("12 ofGrain(1)", Labs.ofGrain(x, 1), 128, 896, 0, 64, 448, 0, 3, 2, 0, 2);
        Due.facts("12 ofGrain(2)", Labs.ofGrain(x, 2), 32, 32, 0, 32, 32, 0, 1, 4, 0, 2);
        x.heat(1, 50);
        x.wash(1, 25);
        Due.facts("12 behind both", Labs.ofGrain(x, 1), 96, 448, 480, 48, 224, 240, 3, 2, 1, 2);
        x.run(1, 0, 0, 0);
        Due.same("12 three runs", x.ofGrain(1, 9), 3);
        x.withdraw(2);
        Due.same("12 two that stand", x.ofGrain(1, 9), 2);
        x.swap(2, 0);
        Due.same("12 with one swapped in", x.ofGrain(1, 9), 3);
        Due.same("12 with one swapped out", x.ofGrain(0, 9), 1);
        Due.refused("12 grain -1", x, Due.BAD_INDEX, () -> x.ofGrain(-1, 0));
        Due.refused("12 grain 3", x, Due.BAD_INDEX, () -> x.ofGrain(3, 0));
        Due.refused("12 grain 3, and a bad question", x, Due.BAD_INDEX, () -> x.ofGrain(3, 10));
        Due.refused("12 question -1", x, Due.BAD_ARGUMENT, () -> x.ofGrain(0, -1));
        Due.refused("12 question 10", x, Due.BAD_ARGUMENT, () -> x.ofGrain(0, 10));
    }

    private static void promise13OfRun() {
        Grainclock x = Labs.threeGrains();
        Due.facts("13 ofRun(0)", Labs.ofRun(x, 0), 0, 0, 16, 1008, 0, 6, 6, 1);
        Due.facts("13 ofRun(3)", Labs.ofRun(x, 3), 1, 1, 64, 448, 0, 3, 3, 1);
        x.withdraw(3);
        Due.facts("13 withdrawn", Labs.ofRun(x, 3), 1, 1, 64, 448, 0, 3, 3, 0);
        Due.refused("13 run -1", x, Due.BAD_INDEX, () -> x.ofRun(-1, 0));
        Due.refused("13 run 6", x, Due.BAD_INDEX, () -> x.ofRun(6, 0));
        Due.refused("13 run 6, and a bad question", x, Due.BAD_INDEX, () -> x.ofRun(6, 8));
        Due.refused("13 question -1", x, Due.BAD_ARGUMENT, () -> x.ofRun(0, -1));
        Due.refused("13 question 8", x, Due.BAD_ARGUMENT, () -> x.ofRun(0, 8));
    }

    private static void promise13SpanOfRun() {
        Grainclock x = Labs.halving();
        x.grain(16, 5, 0);
        x.pass(2);
        // 4 mothers and 12 daughters; with a slip of 2: 16 8 4 down to 6, 16 8 4 2 1 down to 2.
        x.slip(2);
        x.run(0, 0, 0, 0);
        Due.facts("13 slip 2", Labs.ofRun(x, 0), 0, 0, 4, 12, 2, 2, 3);
        // With a slip of 5: 16 8 down to 9; no mothers need be left.
        x.slip(5);
        x.run(0, 0, 0, 0);
        Due.facts("13 slip 5", Labs.ofRun(x, 1), 0, 0, 4, 12, 5, 1, 3000);
        // With errors: 6 and 10, and a slip of 3: 16 8 down to 9, 16 8 4 2 down to 3.
        x.slip(3);
        x.run(0, 0, 2, -2);
        Due.facts("13 slip 3", Labs.ofRun(x, 2), 0, 0, 6, 10, 3, 1, 2);
        // 2 mothers and 3 daughters: 5 3 2 1.
        x.slip(0);
        x.run(0, 1, 0, 0);
        Due.facts("13 slip 0", Labs.ofRun(x, 3), 0, 1, 2, 3, 0, 2, 2);
        x.wash(0, 100);
        x.run(0, 1, 0, 0);
        Due.facts("13 it never comes", Labs.ofRun(x, 4), 0, 1, 0, 3, 0, 3000, 3000);
    }

    private static void promise13SpanGrowsWithYears() {
        Grainclock x = Labs.halving();
        x.grain(5, 1024, 0);
        x.pass(3);
        x.wash(0, 10);
        // 1 and 4, and 116 and 896, of 1012: 1012 506 253 127 64.
        x.run(0, 0, 0, 0);
        x.run(0, 1, 0, 0);
        Due.facts("13 at first", Labs.ofRun(x, 0), 0, 0, 1, 4, 0, 3, 3000, 1);
        Due.facts("13 at first too", Labs.ofRun(x, 1), 0, 1, 116, 896, 0, 4, 3, 1);
        x.pass(10);
        Due.facts("13 ten years more", Labs.ofRun(x, 0), 0, 0, 1, 4, 0, 13, 3010, 1);
        Due.facts("13 ten years more too", Labs.ofRun(x, 1), 0, 1, 116, 896, 0, 14, 13, 1);
        x.withdraw(1);
        x.pass(1);
        Due.same("13 also of a withdrawn run", x.ofRun(1, 5), 15);
        Due.same("13 3000 is the most of a grain", x.span(0, 0, 1), 3000);
    }

    private static void promise13SlipOfDaughters() {
        Grainclock x = new Grainclock();
        x.pace(0, 200);
        x.slip(9);
        x.grain(1000, 0, 0);
        x.run(0, 0, 0, 0);
        // 991 and 9 of 1000: 1000 995 991 987.
        Due.facts("13 slip of daughters", Labs.ofRun(x, 0), 0, 0, 1000, 0, 9, 0, 2);
    }

    private static void promise14Span() {
        Grainclock x = Labs.threeGrains();
        x.grain(7, 7, 1);
        Due.facts("14 without a run", new int[] {x.span(3, -1, 0), x.span(3, 0, 1), x.span(3, 1, 2)}, 0, 3000, 0);
        x.swap(0, 4);
        Due.facts("14 by the clock 0", new int[] {x.span(0, 0, 0), x.span(0, 0, 1), x.span(0, 0, 2)}, 1, 1, 0);
        Due.facts("14 by the clock 1", new int[] {x.span(0, 1, 0), x.span(0, 1, 1), x.span(0, 1, 2)}, 6, 6, 0);
        Due.facts("14 by both", new int[] {x.span(0, -1, 0), x.span(0, -1, 1), x.span(0, -1, 2)}, 6, 1, 1);
        x.withdraw(4);
        Due.facts("14 without it", new int[] {x.span(0, 0, 0), x.span(0, 0, 1), x.span(0, -1, 2)}, 0, 3000, 0);
        x.heat(1, 50);
        x.run(1, 0, 0, 0);
        // 128 and 448 of 576: 576 288 144 72, so EARLY is 3 and LATE 2.
        Due.facts("14 of two runs", new int[] {x.span(1, 0, 0), x.span(1, 0, 1), x.span(1, 0, 2)}, 3, 2, 1);
        Due.refused("14 grain -1", x, Due.BAD_INDEX, () -> x.span(-1, 0, 0));
        Due.refused("14 grain 4", x, Due.BAD_INDEX, () -> x.span(4, 0, 0));
        Due.refused("14 clock -2", x, Due.BAD_INDEX, () -> x.span(0, -2, 0));
        Due.refused("14 clock 2", x, Due.BAD_INDEX, () -> x.span(0, 2, 0));
        Due.refused("14 clock 2, and a bad question", x, Due.BAD_INDEX, () -> x.span(0, 2, 3));
        Due.refused("14 question -1", x, Due.BAD_ARGUMENT, () -> x.span(0, 0, -1));
        Due.refused("14 question 3", x, Due.BAD_ARGUMENT, () -> x.span(0, -1, 3));
    }

    private static void promise15Narrowed() {
        Grainclock x = Labs.threeGrains();
        Due.facts("15 as they are", new int[] {x.narrowed(0, false), x.narrowed(0, true), x.narrowed(1, false),
            x.narrowed(1, true), x.narrowed(2, false), x.narrowed(2, true)}, 6, 6, 3, 3, 1, 1);
        x.withdraw(2);
        x.withdraw(3);
        Due.same("15 EARLY from above", x.narrowed(1, false), 1);
        Due.same("15 LATE from below", x.narrowed(1, true), 6);
        x.withdraw(0);
        x.withdraw(1);
        Due.same("15 EARLY of the lowest", x.narrowed(0, false), 1);
        Due.same("15 LATE of the lowest", x.narrowed(0, true), 3000);
        x.grain(9, 9, 4);
        Due.same("15 EARLY beside in one bed", x.narrowed(3, false), 0);
        Due.same("15 LATE beside in one bed", x.narrowed(3, true), 3000);
        Due.same("15 LATE with nothing known below", x.narrowed(2, true), 1);
        Grainclock z = Labs.halving();
        z.grain(64, 64, 5);
        z.pass(6);
        z.run(0, 0, 0, 0);
        z.grain(64, 64, 2);
        z.pass(1);
        z.run(1, 0, 0, 0);
        Due.same("15 EARLY from the first grain", z.narrowed(1, false), 7);
        Due.same("15 LATE from the second grain", z.narrowed(0, true), 1);
        Due.refused("15 grain -1", x, Due.BAD_INDEX, () -> x.narrowed(-1, true));
        Due.refused("15 grain 4", x, Due.BAD_INDEX, () -> x.narrowed(4, false));
        Grainclock y = Labs.threeGrains();
        y.swap(0, 4);
        // The lowest is now 6 to 1 and the topmost too.
        Due.facts("15 with quarrels", new int[] {y.narrowed(0, false), y.narrowed(0, true), y.narrowed(1, false),
            y.narrowed(1, true), y.narrowed(2, false), y.narrowed(2, true)}, 6, 1, 6, 1, 6, 1);
    }

    private static void promise16OfPrint() {
        Grainclock x = Labs.threeGrains();
        x.pace(1, 30);
        x.print(2, -1);
        x.print(1, 0);
        x.print(5, 1);
        x.print(5, 0);
        Due.facts("16 ofPrint(0)", Labs.ofPrint(x, 0), 2, 2, -1, 1, 0);
        Due.facts("16 ofPrint(1)", Labs.ofPrint(x, 1), 1, 30, 0, 1, 1);
        Due.facts("16 ofPrint(2)", Labs.ofPrint(x, 2), 5, 30, 1, 1, 2);
        Due.facts("16 ofPrint(3)", Labs.ofPrint(x, 3), 5, 30, 0, 1, 1);
        x.swap(5, 0);
        Due.facts("16 with any label", Labs.ofPrint(x, 2), 5, 30, 1, 1, 2);
        x.pace(1, 31);
        Due.facts("16 another pace", Labs.ofPrint(x, 2), 5, 30, 1, 0, 2);
        Due.facts("16 of the other clock", Labs.ofPrint(x, 0), 2, 2, -1, 1, 0);
        x.pace(1, 30);
        Due.facts("16 the same again", Labs.ofPrint(x, 2), 5, 30, 1, 1, 2);
        x.withdraw(1);
        Due.facts("16 withdrawn", Labs.ofPrint(x, 1), 1, 30, 0, 0, 1);
        Due.facts("16 on what fell", Labs.ofPrint(x, 2), 5, 30, 1, 0, 2);
        Due.facts("16 beside what fell", Labs.ofPrint(x, 3), 5, 30, 0, 1, 1);
        x.pace(0, 3);
        Due.facts("16 by the chain", Labs.ofPrint(x, 3), 5, 30, 0, 0, 1);
        Due.refused("16 print -1", x, Due.BAD_INDEX, () -> x.ofPrint(-1, 0));
        Due.refused("16 print 4", x, Due.BAD_INDEX, () -> x.ofPrint(4, 0));
        Due.refused("16 print 4, and a bad question", x, Due.BAD_INDEX, () -> x.ofPrint(4, 5));
        Due.refused("16 question -1", x, Due.BAD_ARGUMENT, () -> x.ofPrint(0, -1));
        Due.refused("16 question 5", x, Due.BAD_ARGUMENT, () -> x.ofPrint(0, 5));
    }

    private static void promise17Lab() {
        Grainclock x = Labs.threeGrains();
        x.print(0, -1);
        x.print(1, 0);
        Due.facts("17 at first", Labs.lab(x), 6, 3, 6, 2, 0, 0, 0, 0, 2, 2, 3712);
        x.swap(0, 4);
        x.slip(7);
        Due.facts("17 swapped", Labs.lab(x), 6, 3, 6, 2, 7, 2, 2, 2, 2, 2, 3712);
        x.withdraw(1);
        Due.facts("17 withdrawn", Labs.lab(x), 6, 3, 5, 1, 7, 1, 1, 2, 2, 2, 3712);
        x.pace(0, 40);
        x.pace(1, 41);
        x.heat(0, 100);
        x.wash(1, 100);
        Due.facts("17 paces", new int[] {x.lab(3), x.lab(8), x.lab(9), x.lab(10)}, 0, 40, 41, 3712);
        Due.refused("17 question -1", x, Due.BAD_ARGUMENT, () -> x.lab(-1));
        Due.refused("17 question 11", x, Due.BAD_ARGUMENT, () -> x.lab(11));
        Due.refused("17 question least", x, Due.BAD_ARGUMENT, () -> x.lab(Due.LEAST));
    }

    private static void promise18Text() {
        Grainclock x = Labs.threeGrains();
        x.grain(1, 1, 0);
        Due.same("18 plain", x.text(0), "6-6");
        Due.same("18 without a run", x.text(3), "0-3000");
        x.swap(0, 4);
        Due.same("18 in quarrel", x.text(0), "6-1!");
        x.wash(0, 0);
        Due.same("18 and touched", x.text(0), "6-1!*");
        x.heat(1, 0);
        Due.same("18 touched alone", x.text(1), "3-3*");
        Due.same("18 grain -1", Due.outcomeOfText(() -> x.text(-1)), "throws.IndexOutOfBoundsException");
        Due.same("18 grain 4", Due.outcomeOfText(() -> x.text(4)), "throws.IndexOutOfBoundsException");
        Grainclock y = Labs.halving();
        y.grain(5, 0, 0);
        y.pass(3);
        y.wash(0, 100);
        y.run(0, 0, 0, 0);
        Due.same("18 EARLY of 3000", y.text(0), "3000-3000*");
        y.pass(1);
        Due.same("18 EARLY above 3000", y.text(0), "3001-3000!*");
    }

    private static void promise19Left() {
        Grainclock x = new Grainclock();
        Due.same("19 at first", x.left(0, 19999, 0), 19999);
        Due.same("19 none", x.left(1, 0, 3000), 0);
        Due.same("19 behind 1", x.left(0, 100, 1), 95);
        Due.same("19 behind 2", x.left(0, 100, 2), 91);
        Due.same("19 behind 4", x.left(0, 100, 4), 83);
        Due.same("19 of the clock 1", x.left(1, 100, 4), 95);
        Due.same("19 at the end", x.left(0, 19999, 3000), 19);
        Due.same("19 at the end of the clock 1", x.left(1, 19999, 3000), 49);
        x.pace(0, 2);
        Due.same("19 by the pace of now", x.left(0, 1024, 4), 64);
        x.pace(1, 200);
        Due.same("19 slowly", x.left(1, 199, 3000), 199);
        Due.same("19 slowly, at the end", x.left(1, 200, 3000), 199);
        Due.refused("19 clock -1", x, Due.BAD_INDEX, () -> x.left(-1, 0, 0));
        Due.refused("19 clock 2", x, Due.BAD_INDEX, () -> x.left(2, 0, 0));
        Due.refused("19 clock 2, and bad years", x, Due.BAD_INDEX, () -> x.left(2, -1, 3001));
        Due.refused("19 mothers below", x, Due.BAD_ARGUMENT, () -> x.left(0, -1, 0));
        Due.refused("19 mothers above", x, Due.BAD_ARGUMENT, () -> x.left(0, 20000, 0));
        Due.refused("19 years below", x, Due.BAD_ARGUMENT, () -> x.left(0, 0, -1));
        Due.refused("19 years above", x, Due.BAD_ARGUMENT, () -> x.left(0, 0, 3001));
    }

    private static void promise20Age() {
        Grainclock x = Labs.halving();
        x.slip(9);
        Due.same("20 EARLY", x.age(0, 128, 896, false), 3);
        Due.same("20 LATE", x.age(0, 128, 896, true), 3);
        Due.same("20 EARLY between", x.age(1, 100, 924, false), 4);
        Due.same("20 LATE between", x.age(1, 100, 924, true), 3);
        Due.same("20 EARLY without a slip", x.age(0, 127, 897, false), 4);
        Due.same("20 LATE without a slip", x.age(0, 129, 895, true), 2);
        Due.same("20 EARLY of nothing", x.age(0, 0, 0, false), 0);
        Due.same("20 LATE of nothing", x.age(0, 0, 0, true), 3000);
        Due.same("20 EARLY without daughters", x.age(0, 9999, 0, false), 0);
        Due.same("20 LATE without daughters", x.age(0, 9999, 0, true), 0);
        Due.same("20 EARLY without mothers", x.age(0, 0, 9999, false), 3000);
        Due.same("20 LATE without mothers", x.age(0, 0, 9999, true), 3000);
        Due.same("20 LATE of what is below the pace", x.age(0, 1, 0, true), 3000);
        x.pass(100);
        Due.same("20 the years ever are no part", x.age(0, 128, 896, true), 3);
        x.pace(1, 3);
        Due.same("20 by the pace of now", x.age(1, 128, 896, false), 6);
        Due.same("20 by the pace of now, LATE", x.age(1, 128, 896, true), 5);
        Due.same("20 the other clock", x.age(0, 128, 896, false), 3);
        Due.refused("20 clock -1", x, Due.BAD_INDEX, () -> x.age(-1, 0, 0, false));
        Due.refused("20 clock 2", x, Due.BAD_INDEX, () -> x.age(2, 0, 0, true));
        Due.refused("20 clock 2, and bad motes", x, Due.BAD_INDEX, () -> x.age(2, -1, 0, true));
        Due.refused("20 mothers below", x, Due.BAD_ARGUMENT, () -> x.age(0, -1, 0, true));
        Due.refused("20 mothers above", x, Due.BAD_ARGUMENT, () -> x.age(0, 10000, 0, false));
        Due.refused("20 daughters below", x, Due.BAD_ARGUMENT, () -> x.age(0, 0, -1, true));
        Due.refused("20 daughters above", x, Due.BAD_ARGUMENT, () -> x.age(0, 0, 10000, false));
    }

    private static void promise21Fewest() {
        Grainclock x = Labs.threeGrains();
        Due.same("21 all agree", x.fewest(), 0);
        x.swap(0, 4);
        Due.same("21 two in quarrel", x.fewest(), 5);
        x.swap(1, 5);
        // 1, 3 and 6 years from below: any two of these clash, and two must go.
        Due.same("21 of three the smallest set", x.fewest(), 3);
        Due.same("21 how many", x.lab(7), 2);
        x.withdraw(2);
        x.withdraw(3);
        Due.same("21 of two the smallest set", x.fewest(), 1);
        Due.same("21 not narrowed", x.narrowed(1, true), 1);
    }

    private static void promise21FewestOfSeveral() {
        Grainclock x = Labs.halving();
        for (int grain = 0; grain < 4; grain++) {
            x.grain(1024, 1024, grain == 3 ? 0 : 3);
        }
        x.pass(5);
        x.grain(64, 64, 0);
        x.pass(1);
        x.run(0, 0, 0, 0);
        x.run(1, 1, 0, 0);
        x.run(2, 0, 0, 0);
        Due.same("21 nothing known below", x.fewest(), 0);
        x.run(4, 0, 0, 0);
        // The one of a year lies below three of six years: it goes alone, though its set is the greater number.
        Due.same("21 fewer before smaller", x.fewest(), 16);
        Due.same("21 one goes", x.lab(7), 1);
        x.run(3, 0, 0, 0);
        Due.same("21 one of six years below agrees", x.fewest(), 16);
        Due.same("21 one bed does not lie on itself", x.narrowed(3, true), 6);
    }

    private static void promise21FewestByBeds() {
        Grainclock x = Labs.halving();
        x.grain(1024, 1024, 5);
        x.pass(5);
        x.grain(64, 64, 2);
        x.grain(64, 64, 5);
        x.pass(1);
        x.run(0, 0, 0, 0);
        x.run(2, 0, 0, 0);
        Due.same("21 one bed", x.fewest(), 0);
        x.run(1, 0, 0, 0);
        Due.same("21 the first grain lies above", x.fewest(), 1);
        x.withdraw(2);
        x.heat(0, 60);
        x.run(0, 0, 0, 0);
        // 16 and 404 of 420: 420 210 105 53 27 14.
        Due.same("21 the first grain behind heat", x.text(0), "6-4!*");
        Due.same("21 the first grain in quarrel alone", x.fewest(), 1);
        Due.same("21 an empty lab", new Grainclock().fewest(), 0);
    }

    private static void promise21FewestBySpans() {
        Grainclock x = Labs.halving();
        x.grain(16, 0, 4);
        x.grain(16, 0, 1);
        x.pass(2);
        x.slip(2);
        x.run(0, 0, 0, 0);
        x.slip(0);
        x.run(1, 0, 0, 0);
        Due.same("21 LATE of the upper one", x.text(0), "2-3");
        Due.same("21 is free", x.fewest(), 0);
        Grainclock z = Labs.halving();
        z.grain(64, 0, 3);
        z.pass(1);
        z.grain(16, 0, 1);
        z.pass(2);
        z.slip(2);
        z.run(1, 0, 0, 0);
        z.slip(0);
        z.run(0, 0, 0, 0);
        Due.same("21 EARLY of the lower one", z.text(1), "2-3");
        Due.same("21 the upper one of 3 years", z.text(0), "3-3");
        Due.same("21 is free too", z.fewest(), 0);
        z.pass(1);
        z.run(0, 0, 0, 0);
        Due.same("21 both grow", z.fewest(), 0);
        z.slip(9);
        z.pace(0, 3);
        // 16 11 8 6 down to 6, and never below 2; 64 43 29 20 14 10 7, and 64 43 29 20 14 10 7 5 4.
        Due.same("21 the lower one by a pace of 3", z.text(1), "4-3000");
        Due.same("21 the upper one by a pace of 3", z.text(0), "8-6!");
        Due.same("21 the upper one goes", z.fewest(), 1);
    }

    private static void promise22Doubles() {
        Grainclock x = Labs.halving();
        x.grain(1024, 1024, 0);
        x.pass(3);
        x.run(0, 0, 0, 0);
        x.run(0, 1, 0, 0);
        Due.same("22 both clocks meet", x.lab(5), 0);
        x.pace(0, 3);
        // 6 to 5, which is no double of itself.
        Due.same("22 by another pace they do not", x.lab(5), 1);
        x.withdraw(1);
        Due.same("22 the first alone", x.lab(5), 0);
        x.run(0, 1, 0, 0);
        Due.same("22 another one", x.lab(5), 1);
        x.pace(0, 2);
        Due.same("22 they meet again", x.lab(5), 0);
        x.pace(1, 3);
        Due.same("22 by the other pace", x.lab(5), 1);
        x.withdraw(0);
        Due.same("22 the last alone", x.lab(5), 0);
        x.run(0, 0, 0, 0);
        x.run(0, 0, 0, 0);
        Due.same("22 by pairs", x.lab(5), 2);
        Due.same("22 runs of one label are not swapped", x.bestSwap(true), -1);
        Grainclock y = Labs.halving();
        y.grain(1024, 1024, 0);
        y.pass(3);
        y.run(0, 1, 0, 0);
        y.run(0, 0, 0, 0);
        y.run(0, 0, 0, 0);
        y.pace(0, 3);
        // 3 to 3, and 6 to 5 twice: these two do not meet each other either.
        Due.same("22 three pairs", y.lab(5), 3);
        y.withdraw(0);
        Due.same("22 of two alike", y.lab(5), 1);
        y.pace(0, 2);
        y.run(0, 0, 0, 0);
        y.pace(0, 3);
        Due.same("22 of three alike", y.lab(5), 3);
        y.withdraw(2);
        y.withdraw(3);
        Due.same("22 of one that stands first", y.lab(5), 0);
    }

    private static void promise22BestSwap() {
        Grainclock x = Labs.threeGrains();
        Due.same("22 none, first", x.bestSwap(true), -1);
        Due.same("22 none, second", x.bestSwap(false), -1);
        x.swap(0, 4);
        Due.same("22 first", x.bestSwap(true), 0);
        Due.same("22 second", x.bestSwap(false), 4);
        Due.same("22 nothing is changed", x.lab(5), 2);
        x.swap(0, 4);
        x.swap(5, 2);
        // 1 and 3 years stand with the labels 1 and 2: swapping 2 and 5 back or 3 and 4 mends both.
        Due.same("22 first of another", x.bestSwap(true), 2);
        Due.same("22 second of another", x.bestSwap(false), 5);
        x.withdraw(5);
        // Only run 4 of 1 year is left with run 2 of 3 years.
        Due.same("22 doubles without it", x.lab(5), 1);
        Due.same("22 first of what stands", x.bestSwap(true), 3);
        Due.same("22 second of what stands", x.bestSwap(false), 4);
        Grainclock y = Labs.threeGrains();
        y.swap(0, 4);
        y.withdraw(0);
        // To swap run 0 again would mend it, but it does not stand.
        Due.same("22 first, without run 0", y.bestSwap(true), 1);
        Due.same("22 second, without run 0", y.bestSwap(false), 5);
        Grainclock z = Labs.threeGrains();
        z.swap(1, 4);
        z.withdraw(4);
        Due.same("22 first, without run 4", z.bestSwap(true), 0);
        Due.same("22 second, without run 4", z.bestSwap(false), 5);
    }

    private static void promise22BestSwapOfSeveral() {
        Grainclock x = Labs.halving();
        x.grain(1024, 1024, 0);
        x.run(0, 0, 0, 0);
        x.pass(1);
        x.run(0, 0, 0, 0);
        x.run(0, 1, 0, 0);
        x.pass(2);
        // All runs tell the same age as years go by.
        Due.same("22 runs of one grain meet", x.lab(5), 0);
        x.heat(0, 100);
        x.run(0, 0, 0, 0);
        Due.same("22 doubles behind heat", x.lab(5), 3);
        Due.same("22 no other label", x.bestSwap(true), -1);
        x.grain(1024, 1024, 0);
        x.run(1, 0, 0, 0);
        // Both of no years: run 3 and run 4; to swap run 0 with run 4 leaves 2 + 1, run 3 with run 4 leaves 3.
        Due.same("22 swaps that leave as many do not count", x.bestSwap(false), -1);
        x.run(1, 1, 0, 0);
        x.swap(0, 4);
        // Label 0 has 3 3 0 0, label 1 has 3 0: 4 + 1; to swap runs 0 and 3 leaves 3 + 0 ... and 3 0 0 0 is worse.
        Due.same("22 doubles", x.lab(5), 5);
        Due.same("22 first", x.bestSwap(true), 0);
        Due.same("22 second", x.bestSwap(false), 3);
    }

    private static void promise23Changed() {
        Grainclock x = Labs.threeGrains();
        Due.same("23 by the same pace", x.changed(0, 2), 0);
        Due.same("23 by another pace", x.changed(0, 3), 3);
        x.withdraw(0);
        Due.same("23 only those that stand", x.changed(0, 3), 2);
        Due.same("23 the other clock", x.changed(1, 3), 3);
        Due.same("23 nothing is changed", x.lab(8), 2);
        // By a pace of 3: 64 43 29, so 1 year becomes 2 to 1; 1024 683 456 304 203 136 91, so 3 becomes 6 to 5.
        x.pace(0, 3);
        Due.same("23 EARLY above LATE by the same", x.changed(0, 3), 2);
        Due.same("23 and back", x.changed(0, 2), 2);
        Grainclock y = Labs.halving();
        y.slip(9);
        y.grain(20, 20, 0);
        y.run(0, 0, 0, 0);
        Due.same("23 spans that meet", y.changed(0, 3), 0);
        Due.same("23 none of the other clock", y.changed(1, 3), 0);
        Due.refused("23 clock -1", x, Due.BAD_INDEX, () -> x.changed(-1, 20));
        Due.refused("23 clock 2", x, Due.BAD_INDEX, () -> x.changed(2, 20));
        Due.refused("23 clock 2, and a bad pace", x, Due.BAD_INDEX, () -> x.changed(2, 1));
        Due.refused("23 pace 1", x, Due.BAD_ARGUMENT, () -> x.changed(0, 1));
        Due.refused("23 pace 201", x, Due.BAD_ARGUMENT, () -> x.changed(1, 201));
        Due.refused("23 pace 0", x, Due.BAD_ARGUMENT, () -> x.changed(1, 0));
        Due.same("23 pace 200", x.changed(0, 200), 2);
    }

    private static void promise23ChangedWithSlip() {
        Grainclock x = Labs.halving();
        x.grain(40, 40, 0);
        x.pass(1);
        x.slip(9);
        x.run(0, 0, 0, 0);
        // 40 27 is below 29, though not below 20.
        Due.same("23 EARLY with its slip", x.changed(0, 3), 0);
        x.pace(0, 3);
        // 1 to 3; by a pace of 4: 40 30 23 18 14 11 9, so 2 to 5.
        Due.same("23 EARLY between", x.changed(0, 4), 0);
        x.slip(5);
        x.pass(1);
        x.run(0, 1, 0, 0);
        Due.facts("23 counted", Labs.ofRun(x, 1), 0, 1, 10, 30, 5, 2, 3);
        x.pace(1, 3);
        // 40 27 18 12 is 3; by a pace of 2 40 20 10 5 is 3, though without the slip it is 2.
        Due.facts("23 by a pace of 3", Labs.ofRun(x, 1), 0, 1, 10, 30, 5, 3, 5);
        Due.same("23 LATE with its slip", x.changed(1, 2), 0);
    }

    private static void promise24Wider() {
        Grainclock x = Labs.threeGrains();
        Due.same("24 one of two alike", x.wider(0, 0), 0);
        Due.same("24 of another label", x.wider(1, 0), 0);
        x.swap(0, 4);
        Due.same("24 the one that quarrels", x.wider(0, 4), 5);
        Due.same("24 the other one", x.wider(0, 1), 5);
        Due.same("24 it has the label of now", x.wider(0, 0), 0);
        Due.same("24 the label of now", x.wider(2, 0), 5);
        Due.same("24 nothing is changed", x.ofRun(4, 7), 1);
        x.withdraw(1);
        Due.same("24 the last one", x.wider(0, 4), 3000);
        Due.refused("24 withdrawn", x, Due.BAD_STATE, () -> x.wider(0, 1));
        Due.refused("24 withdrawn, of another label", x, Due.BAD_STATE, () -> x.wider(2, 1));
        Due.refused("24 grain -1", x, Due.BAD_INDEX, () -> x.wider(-1, 0));
        Due.refused("24 grain 3", x, Due.BAD_INDEX, () -> x.wider(3, 0));
        Due.refused("24 run -1", x, Due.BAD_INDEX, () -> x.wider(0, -1));
        Due.refused("24 run 6", x, Due.BAD_INDEX, () -> x.wider(0, 6));
        Due.refused("24 no grain, and withdrawn", x, Due.BAD_INDEX, () -> x.wider(3, 1));
    }

    private static void promise25IsSound() {
        Grainclock x = Labs.threeGrains();
        Due.same("25 at first", x.isSound(), true);
        x.heat(0, 33);
        x.wash(0, 67);
        x.heat(2, 100);
        x.wash(2, 100);
        Due.same("25 with motes gone", x.isSound(), true);
        x.pass(300);
        x.run(0, 0, 0, 0);
        x.run(2, 1, 0, 0);
        Due.same("25 with quarrels", x.isSound(), true);
        x.print(0, -1);
        x.print(1, 0);
        x.withdraw(0);
        Due.same("25 with prints that fell", x.isSound(), true);
        x.swap(0, 5);
        x.swap(1, 4);
        x.pace(0, 200);
        x.pace(1, 3);
        Due.same("25 with all of it", x.isSound(), true);
    }

    private static void promise26Digest() {
        Grainclock x = Labs.threeGrains();
        Due.same("26 at first", x.digest(), Labs.digestOf(x));
        Due.same("26 twice", x.digest(), x.digest());
        x.print(2, -1);
        x.print(5, 0);
        x.swap(0, 4);
        x.heat(1, 20);
        Due.same("26 later", x.digest(), Labs.digestOf(x));
        x.pass(20);
        x.withdraw(3);
        x.slip(4);
        x.pace(0, 5);
        Due.same("26 last", x.digest(), Labs.digestOf(x));
    }
}
