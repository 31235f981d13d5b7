/** Promises 1 to 6, the opening rows and the part 1: each sentence that names an edge, by itself. */
public final class EdgesOfGrainsTest {
    private EdgesOfGrainsTest() {
    }

    public static void main(String[] args) {
        newObject();
        grain();
        pass();
        turning();
        heat();
        wash();
        pace();
        Due.end();
    }

    private static void newObject() {
        Due.test("1 Creates a laboratory without GRAINS", EdgesOfGrainsTest::emptyLab);
        Due.test("1 without GRAINS: nothing can be named", EdgesOfGrainsTest::emptyLabRefuses);
        Due.test("1 without GRAINS: what needs none", EdgesOfGrainsTest::emptyLabAnswers);
        Due.test("1 PACE: 20 and 50 at first", EdgesOfGrainsTest::firstPaces);
        Due.test("1 SLIP: 2 at first", EdgesOfGrainsTest::firstSlip);
        Due.test("1 two objects are apart", EdgesOfGrainsTest::objectsApart);
        Due.test("An object is used for at most 512 calls", EdgesOfGrainsTest::lastCall);
        Due.test("An object is used for at most 512 calls: of one kind", EdgesOfGrainsTest::manyCallsOfOneKind);
    }

    private static void emptyLab() {
        Grainclock x = new Grainclock();
        Due.facts("lab", Labs.lab(x), 0, 0, 0, 0, 2, 0, 0, 0, 20, 50, 0);
        Due.same("fewest", x.fewest(), 0);
        Due.same("bestSwap, first", x.bestSwap(true), -1);
        Due.same("bestSwap, second", x.bestSwap(false), -1);
        Due.same("isSound", x.isSound(), true);
    }

    private static void emptyLabRefuses() {
        refusesOnEmpty("heat(0, 0)", x -> x.heat(0, 0));
        refusesOnEmpty("wash(0, 0)", x -> x.wash(0, 0));
        refusesOnEmpty("run(0, 0, 0, 0)", x -> x.run(0, 0, 0, 0));
        refusesOnEmpty("withdraw(0)", x -> x.withdraw(0));
        refusesOnEmpty("swap(0, 1)", x -> x.swap(0, 1));
        refusesOnEmpty("swap(0, 0)", x -> x.swap(0, 0));
        refusesOnEmpty("print(0, -1)", x -> x.print(0, -1));
        refusesOnEmpty("ofGrain(0, 0)", x -> x.ofGrain(0, 0));
        refusesOnEmpty("ofRun(0, 0)", x -> x.ofRun(0, 0));
        refusesOnEmpty("span(0, -1, 0)", x -> x.span(0, -1, 0));
        refusesOnEmpty("narrowed(0, true)", x -> x.narrowed(0, true));
        refusesOnEmpty("narrowed(0, false)", x -> x.narrowed(0, false));
        refusesOnEmpty("ofPrint(0, 0)", x -> x.ofPrint(0, 0));
        refusesOnEmpty("text(0)", x -> x.text(0));
        refusesOnEmpty("wider(0, 0)", x -> x.wider(0, 0));
    }

    private static void refusesOnEmpty(String what, Due.CallOf call) {
        Due.refuses(what, Grainclock::new, Due.BAD_INDEX, call);
    }

    private static void emptyLabAnswers() {
        Grainclock x = new Grainclock();
        Due.same("changed(0, 2)", x.changed(0, 2), 0);
        Due.same("changed(1, 200)", x.changed(1, 200), 0);
        Due.same("left(0, 20, 1)", x.left(0, 20, 1), 19);
        Due.same("age(1, 49, 1, false)", x.age(1, 49, 1, false), 1);
        Due.same("pass(300)", x.pass(300), 300);
        Due.same("the first grain", x.grain(0, 0, 0), 0);
        Due.same("AGE of the first grain", x.ofGrain(0, 6), 0);
    }

    private static void firstPaces() {
        Grainclock x = new Grainclock();
        Due.same("PACE of the clock 0", x.lab(8), 20);
        Due.same("PACE of the clock 1", x.lab(9), 50);
        Due.same("pace(0, 7)", x.pace(0, 7), 20);
        Due.same("pace(1, 7)", x.pace(1, 7), 50);
    }

    private static void firstSlip() {
        Grainclock x = new Grainclock();
        Due.same("SLIP", x.lab(4), 2);
        Due.same("slip(7)", x.slip(7), 2);
        Grainclock y = new Grainclock();
        y.grain(100, 100, 0);
        Due.same("an error of the first SLIP", y.run(0, 0, 2, -2), 0);
        Due.same("it is kept", y.ofRun(0, 4), 2);
    }

    private static void objectsApart() {
        Grainclock x = new Grainclock();
        Grainclock y = Labs.full();
        Due.same("GRAINS of the other one", x.lab(1), 0);
        Due.same("PACE of the other one", x.lab(8), 20);
        Due.same("YEARS of the other one", x.lab(0), 0);
        Due.same("a number of its own", x.grain(1, 1, 1), 0);
        Due.same("GRAINS of the full one", y.lab(1), 8);
    }

    private static void lastCall() {
        Grainclock x = Labs.full();
        int made = 49;
        while (made < 511) {
            x.digest();
            made++;
        }
        Due.same("the 512th call", x.digest(), Labs.digestOf(Labs.full()));
    }

    private static void manyCallsOfOneKind() {
        Grainclock x = new Grainclock();
        x.grain(9999, 9999, 5);
        for (int made = 1; made < 510; made++) {
            x.heat(0, 0);
        }
        Due.same("the 511th call", x.heat(0, 100), 0);
        Due.same("the 512th call", x.text(0), "0-3000*");
        Grainclock y = new Grainclock();
        for (int made = 0; made < 511; made++) {
            y.pass(5);
        }
        Due.same("the 512th pass", y.pass(5), 2560);
    }

    // ---- promise 2

    private static void grain() {
        Due.test("2 GRAINS: at most 8", EdgesOfGrainsTest::eightGrains);
        Due.test("2 numbered from 0", EdgesOfGrainsTest::grainNumbers);
        Due.test("2 first: MOTHERS (0 to 9999)", EdgesOfGrainsTest::firstMothers);
        Due.test("2 second: MOTHERS (0 to 9999)", EdgesOfGrainsTest::secondMothers);
        Due.test("2 in a BED (0 to 5)", EdgesOfGrainsTest::beds);
        Due.test("2 the exception that is named first", EdgesOfGrainsTest::grainNamesFirst);
        Due.test("2 all motes that ever were", EdgesOfGrainsTest::mostMotes);
    }

    private static void eightGrains() {
        Grainclock x = new Grainclock();
        for (int grain = 0; grain < 8; grain++) {
            Due.same("grain " + grain, x.grain(9, 9, grain % 6), grain);
            Due.same("GRAINS", x.lab(1), grain + 1);
        }
        Due.same("the ninth", Due.outcome(() -> x.grain(9, 9, 0)), Due.STATE_THROWN);
        Due.same("GRAINS as before", x.lab(1), 8);
        Due.refusesFull("the ninth of a full lab", Due.BAD_STATE, y -> y.grain(0, 0, 0));
        Due.refusesFull("the ninth, of the most", Due.BAD_STATE, y -> y.grain(9999, 9999, 5));
    }

    private static void grainNumbers() {
        Grainclock x = new Grainclock();
        Due.same("the first", x.grain(3, 4, 5), 0);
        Due.same("the second", x.grain(6, 7, 1), 1);
        Due.facts("the first is asked by 0", Labs.ofGrain(x, 0), 3, 0, 0, 4, 0, 0, 0, 5, 0, 0);
        Due.facts("the second is asked by 1", Labs.ofGrain(x, 1), 6, 0, 0, 7, 0, 0, 0, 1, 0, 0);
        Due.same("a refused one takes no number", Due.outcome(() -> x.grain(0, 0, 6)), Due.ARGUMENT_THROWN);
        Due.same("the third", x.grain(0, 0, 0), 2);
    }

    private static void firstMothers() {
        Grainclock x = new Grainclock();
        Due.same("0", x.grain(0, 5, 0), 0);
        Due.same("9999", x.grain(9999, 5, 0), 1);
        Due.same("MOTHERS of 0", x.ofGrain(0, 0), 0);
        Due.same("MOTHERS of 9999", x.ofGrain(1, 0), 9999);
        Due.refusesBusy("-1", Due.BAD_ARGUMENT, y -> y.grain(-1, 5, 0));
        Due.refusesBusy("10000", Due.BAD_ARGUMENT, y -> y.grain(10000, 5, 0));
        Due.refusesBusy("the least", Due.BAD_ARGUMENT, y -> y.grain(Due.LEAST, 5, 0));
        Due.refusesBusy("the most", Due.BAD_ARGUMENT, y -> y.grain(Due.MOST, 5, 0));
    }

    private static void secondMothers() {
        Grainclock x = new Grainclock();
        Due.same("0", x.grain(5, 0, 0), 0);
        Due.same("9999", x.grain(5, 9999, 0), 1);
        Due.same("MOTHERS of 0", x.ofGrain(0, 3), 0);
        Due.same("MOTHERS of 9999", x.ofGrain(1, 3), 9999);
        Due.refusesBusy("-1", Due.BAD_ARGUMENT, y -> y.grain(5, -1, 0));
        Due.refusesBusy("10000", Due.BAD_ARGUMENT, y -> y.grain(5, 10000, 0));
        Due.refusesBusy("the least", Due.BAD_ARGUMENT, y -> y.grain(5, Due.LEAST, 0));
        Due.refusesBusy("the most", Due.BAD_ARGUMENT, y -> y.grain(5, Due.MOST, 0));
    }

    private static void beds() {
        Grainclock x = new Grainclock();
        Due.same("0", x.grain(5, 5, 0), 0);
        Due.same("5", x.grain(5, 5, 5), 1);
        Due.same("BED 0", x.ofGrain(0, 7), 0);
        Due.same("BED 5", x.ofGrain(1, 7), 5);
        Due.refusesBusy("-1", Due.BAD_ARGUMENT, y -> y.grain(5, 5, -1));
        Due.refusesBusy("6", Due.BAD_ARGUMENT, y -> y.grain(5, 5, 6));
        Due.refusesBusy("the least", Due.BAD_ARGUMENT, y -> y.grain(5, 5, Due.LEAST));
        Due.refusesBusy("the most", Due.BAD_ARGUMENT, y -> y.grain(5, 5, Due.MOST));
    }

    private static void grainNamesFirst() {
        Due.refusesFull("full, first -1", Due.BAD_ARGUMENT, x -> x.grain(-1, 0, 0));
        Due.refusesFull("full, first 10000", Due.BAD_ARGUMENT, x -> x.grain(10000, 0, 0));
        Due.refusesFull("full, second -1", Due.BAD_ARGUMENT, x -> x.grain(0, -1, 0));
        Due.refusesFull("full, second 10000", Due.BAD_ARGUMENT, x -> x.grain(0, 10000, 0));
        Due.refusesFull("full, bed -1", Due.BAD_ARGUMENT, x -> x.grain(0, 0, -1));
        Due.refusesFull("full, bed 6", Due.BAD_ARGUMENT, x -> x.grain(0, 0, 6));
    }

    private static void mostMotes() {
        Grainclock x = new Grainclock();
        for (int grain = 0; grain < 8; grain++) {
            x.grain(9999, 9999, 0);
        }
        Due.same("of 8 GRAINS", x.lab(10), 159984);
        x.pass(300);
        x.heat(0, 100);
        x.wash(1, 100);
        Due.same("also what is GONE", x.lab(10), 159984);
    }

    // ---- promise 3

    private static void pass() {
        Due.test("3 years is 1 to 300", EdgesOfGrainsTest::yearsAtOnce);
        Due.test("3 YEARS ever: 3000 at most", EdgesOfGrainsTest::yearsEver);
        Due.test("3 more than 3000: by one, by all", EdgesOfGrainsTest::yearsBeyond);
        Due.test("3 the exception that is named first", EdgesOfGrainsTest::passNamesFirst);
        Due.test("3 AGE: YEARS since it was born", EdgesOfGrainsTest::ages);
    }

    private static void yearsAtOnce() {
        Grainclock x = new Grainclock();
        Due.same("1", x.pass(1), 1);
        Due.same("300", x.pass(300), 301);
        Due.same("299", x.pass(299), 600);
        Due.same("YEARS ever", x.lab(0), 600);
        Due.refusesBusy("0", Due.BAD_ARGUMENT, y -> y.pass(0));
        Due.refusesBusy("-1", Due.BAD_ARGUMENT, y -> y.pass(-1));
        Due.refusesBusy("301", Due.BAD_ARGUMENT, y -> y.pass(301));
        Due.refusesBusy("3000", Due.BAD_ARGUMENT, y -> y.pass(3000));
        Due.refusesBusy("the least", Due.BAD_ARGUMENT, y -> y.pass(Due.LEAST));
        Due.refusesBusy("the most", Due.BAD_ARGUMENT, y -> y.pass(Due.MOST));
    }

    /** So many years behind, in steps of at most 300. */
    private static Grainclock behind(int years) {
        Grainclock x = new Grainclock();
        x.grain(9999, 9999, 0);
        x.run(0, 0, 0, 0);
        for (int left = years; left > 0; left -= 300) {
            x.pass(Math.min(left, 300));
        }
        return x;
    }

    private static void yearsEver() {
        Due.same("2999 and 1", behind(2999).pass(1), 3000);
        Due.same("2700 and 300", behind(2700).pass(300), 3000);
        Due.same("2701 and 299", behind(2701).pass(299), 3000);
        Due.same("3000 in steps of 300", behind(3000).lab(0), 3000);
        Due.same("an old lab", Labs.old().lab(0), 3000);
    }

    private static void yearsBeyond() {
        Due.refuses("3000 and 1", Labs::old, Due.BAD_STATE, x -> x.pass(1));
        Due.refuses("3000 and 300", Labs::old, Due.BAD_STATE, x -> x.pass(300));
        Due.refuses("2999 and 2", () -> behind(2999), Due.BAD_STATE, x -> x.pass(2));
        Due.refuses("2999 and 300", () -> behind(2999), Due.BAD_STATE, x -> x.pass(300));
        Due.refuses("2701 and 300", () -> behind(2701), Due.BAD_STATE, x -> x.pass(300));
        Due.refuses("2702 and 299", () -> behind(2702), Due.BAD_STATE, x -> x.pass(299));
    }

    private static void passNamesFirst() {
        Due.refuses("301 at the end", Labs::old, Due.BAD_ARGUMENT, x -> x.pass(301));
        Due.refuses("the most at the end", Labs::old, Due.BAD_ARGUMENT, x -> x.pass(Due.MOST));
        Due.refuses("0 at the end", Labs::old, Due.BAD_ARGUMENT, x -> x.pass(0));
        Due.refuses("the least at the end", Labs::old, Due.BAD_ARGUMENT, x -> x.pass(Due.LEAST));
    }

    private static void ages() {
        Grainclock x = behind(2999);
        x.grain(0, 0, 0);
        Due.same("of what is just born", x.ofGrain(1, 6), 0);
        Due.same("of what was there at first", x.ofGrain(0, 6), 2999);
        x.pass(1);
        x.grain(0, 0, 0);
        Due.same("a year later", x.ofGrain(1, 6), 1);
        Due.same("of all YEARS", x.ofGrain(0, 6), 3000);
        Due.same("born at the end", x.ofGrain(2, 6), 0);
    }

    private static void turning() {
        Due.test("MOTHERS / PACE: what is divided is rounded down", EdgesOfGrainsTest::turnedRoundedDown);
        Due.test("In each YEAR MOTHERS / PACE become DAUGHTERS", EdgesOfGrainsTest::turnedYearByYear);
        Due.test("none turns below the PACE", EdgesOfGrainsTest::turnedBelowPace);
        Due.test("of each GRAIN and CLOCK", EdgesOfGrainsTest::turnedOfEach);
        Due.test("years at once are years one by one", EdgesOfGrainsTest::turnedAtOnce);
    }

    private static void turnedRoundedDown() {
        Grainclock x = new Grainclock();
        x.grain(0, 0, 0);
        x.grain(19, 49, 0);
        x.grain(20, 50, 0);
        x.grain(39, 99, 0);
        x.grain(40, 100, 0);
        x.grain(9999, 9999, 0);
        x.pass(1);
        Due.facts("no MOTHERS", Labs.ofGrain(x, 0), 0, 0, 0, 0, 0, 0);
        Due.facts("one fewer than the PACE", Labs.ofGrain(x, 1), 19, 0, 0, 49, 0, 0);
        Due.facts("as many as the PACE", Labs.ofGrain(x, 2), 19, 1, 0, 49, 1, 0);
        Due.facts("one fewer than twice the PACE", Labs.ofGrain(x, 3), 38, 1, 0, 98, 1, 0);
        Due.facts("twice the PACE", Labs.ofGrain(x, 4), 38, 2, 0, 98, 2, 0);
        Due.facts("the most", Labs.ofGrain(x, 5), 9500, 499, 0, 9800, 199, 0);
    }

    private static void turnedYearByYear() {
        Grainclock x = new Grainclock();
        x.grain(40, 100, 0);
        x.pass(2);
        Due.facts("fewer in the second YEAR", Labs.ofGrain(x, 0), 37, 3, 0, 97, 3, 0);
        x.pass(18);
        Due.facts("down to the PACE", Labs.ofGrain(x, 0), 19, 21, 0, 79, 21, 0);
    }

    private static void turnedBelowPace() {
        Grainclock x = new Grainclock();
        x.pace(0, 2);
        x.pace(1, 200);
        x.grain(3, 201, 0);
        x.grain(1, 199, 0);
        for (int k = 0; k < 10; k++) {
            x.pass(300);
        }
        Due.facts("one by a PACE of 2, 199 by one of 200", Labs.ofGrain(x, 0), 1, 2, 0, 199, 2, 0, 3000);
        Due.facts("these never turn", Labs.ofGrain(x, 1), 1, 0, 0, 199, 0, 0, 3000);
    }

    private static void turnedOfEach() {
        Grainclock x = new Grainclock();
        for (int grain = 0; grain < 8; grain++) {
            x.grain(100, 100, 0);
        }
        x.pass(1);
        for (int grain = 0; grain < 8; grain++) {
            Due.facts("grain " + grain, Labs.ofGrain(x, grain), 95, 5, 0, 98, 2, 0);
        }
    }

    private static void turnedAtOnce() {
        Grainclock x = new Grainclock();
        Grainclock y = new Grainclock();
        x.grain(9999, 8000, 0);
        y.grain(9999, 8000, 0);
        x.pass(300);
        for (int year = 0; year < 300; year++) {
            y.pass(1);
        }
        Due.facts("300 years", Labs.ofGrain(x, 0), Labs.ofGrain(y, 0));
        Due.same("all of it", x.digest(), y.digest());
    }

    // ---- promise 4

    private static void heat() {
        Due.test("4 a share is 0 to 100", EdgesOfGrainsTest::heatShares);
        Due.test("4 no such GRAIN", EdgesOfGrainsTest::heatGrains);
        Due.test("4 the exception that is named first", EdgesOfGrainsTest::heatNamesFirst);
        Due.test("4 each number rounded down", EdgesOfGrainsTest::heatRoundedDown);
        Due.test("4 of the DAUGHTERS of both CLOCKS: these are GONE", EdgesOfGrainsTest::heatTakesDaughters);
        Due.test("4 TOUCHED by that, also if nothing was taken", EdgesOfGrainsTest::heatTouches);
        Due.test("4 the most", EdgesOfGrainsTest::heatOfTheMost);
    }

    /** Grains of 400 and 100, of 1 and 1, and of no daughters. */
    private static Grainclock withDaughters() {
        Grainclock x = Labs.halving();
        x.grain(800, 200, 0);
        x.grain(2, 2, 0);
        x.grain(1, 1, 0);
        x.pass(1);
        x.run(0, 0, 0, 0);
        return x;
    }

    private static void heatShares() {
        Due.same("0", withDaughters().heat(0, 0), 0);
        Due.same("1", withDaughters().heat(0, 1), 5);
        Due.same("99", withDaughters().heat(0, 99), 495);
        Due.same("100", withDaughters().heat(0, 100), 500);
        refusesHeat("-1", Due.BAD_ARGUMENT, x -> x.heat(0, -1));
        refusesHeat("101", Due.BAD_ARGUMENT, x -> x.heat(0, 101));
        refusesHeat("the least", Due.BAD_ARGUMENT, x -> x.heat(0, Due.LEAST));
        refusesHeat("the most", Due.BAD_ARGUMENT, x -> x.heat(0, Due.MOST));
    }

    private static void refusesHeat(String what, Class<?> kind, Due.CallOf call) {
        Due.refuses(what, EdgesOfGrainsTest::withDaughters, kind, call);
    }

    private static void heatGrains() {
        Due.same("the last", withDaughters().heat(2, 100), 0);
        refusesHeat("-1", Due.BAD_INDEX, x -> x.heat(-1, 50));
        refusesHeat("3 of 3", Due.BAD_INDEX, x -> x.heat(3, 50));
        refusesHeat("the least", Due.BAD_INDEX, x -> x.heat(Due.LEAST, 50));
        refusesHeat("the most", Due.BAD_INDEX, x -> x.heat(Due.MOST, 50));
        Due.refusesFull("8 of 8", Due.BAD_INDEX, x -> x.heat(8, 50));
        Due.same("7 of 8", Labs.full().heat(7, 100), 768);
    }

    private static void heatNamesFirst() {
        refusesHeat("-1, of -1", Due.BAD_INDEX, x -> x.heat(-1, -1));
        refusesHeat("3, of 101", Due.BAD_INDEX, x -> x.heat(3, 101));
    }

    private static void heatRoundedDown() {
        Grainclock x = withDaughters();
        Due.same("99 of 1 and 1", x.heat(1, 99), 0);
        Due.same("50 of 1 and 1", x.heat(1, 50), 0);
        Due.same("100 of 1 and 1", x.heat(1, 100), 2);
        Grainclock y = withDaughters();
        Due.same("1", y.heat(0, 1), 5);
        Due.same("50 of 396 and 99", y.heat(0, 50), 247);
        Due.facts("what is left", Labs.ofGrain(y, 0), 400, 198, 202, 100, 50, 50);
    }

    private static void heatTakesDaughters() {
        Grainclock x = withDaughters();
        x.heat(0, 25);
        Due.facts("25", Labs.ofGrain(x, 0), 400, 300, 100, 100, 75, 25, 1, 0, 1);
        x.heat(0, 100);
        Due.facts("and 100", Labs.ofGrain(x, 0), 400, 0, 400, 100, 0, 100, 1, 0, 1);
        Due.same("and no more", x.heat(0, 100), 0);
        Due.facts("the other grain", Labs.ofGrain(x, 1), 1, 1, 0, 1, 1, 0, 1, 0, 0);
        Due.facts("a run is as it was", Labs.ofRun(x, 0), 0, 0, 400, 400, 0, 1, 1, 1);
    }

    private static void heatTouches() {
        Grainclock x = withDaughters();
        x.heat(0, 0);
        x.heat(2, 100);
        Due.same("by a share of 0", x.ofGrain(0, 8), 1);
        Due.same("not the other one", x.ofGrain(1, 8), 0);
        Due.same("by a share of no DAUGHTERS", x.ofGrain(2, 8), 1);
        x.heat(1, 99);
        Due.same("by a share that is rounded down to none", x.ofGrain(1, 8), 1);
        x.pass(300);
        Due.same("for ever", x.ofGrain(1, 8), 1);
        Grainclock y = withDaughters();
        Due.same("a refused share", Due.outcome(() -> y.heat(0, 101)), Due.ARGUMENT_THROWN);
        Due.same("touches nothing", y.ofGrain(0, 8), 0);
    }

    private static void heatOfTheMost() {
        Grainclock x = Labs.halving();
        x.grain(9999, 9999, 0);
        x.pass(300);
        Due.same("9998 and 9998", x.heat(0, 100), 19996);
        Due.facts("what is left", Labs.ofGrain(x, 0), 1, 0, 9998, 1, 0, 9998, 300, 0, 1);
    }

    // ---- promise 5

    private static void wash() {
        Due.test("5 a share is 0 to 100", EdgesOfGrainsTest::washShares);
        Due.test("5 no such GRAIN", EdgesOfGrainsTest::washGrains);
        Due.test("5 the exception that is named first", EdgesOfGrainsTest::washNamesFirst);
        Due.test("5 each number rounded down", EdgesOfGrainsTest::washRoundedDown);
        Due.test("5 WASHING one of the MOTHERS: these are GONE", EdgesOfGrainsTest::washTakesMothers);
        Due.test("5 TOUCHED by that, also if nothing was taken", EdgesOfGrainsTest::washTouches);
        Due.test("5 the most", EdgesOfGrainsTest::washOfTheMost);
    }

    private static void washShares() {
        Due.same("0", withDaughters().wash(0, 0), 0);
        Due.same("1", withDaughters().wash(0, 1), 5);
        Due.same("99", withDaughters().wash(0, 99), 495);
        Due.same("100", withDaughters().wash(0, 100), 500);
        refusesHeat("-1", Due.BAD_ARGUMENT, x -> x.wash(0, -1));
        refusesHeat("101", Due.BAD_ARGUMENT, x -> x.wash(0, 101));
        refusesHeat("the least", Due.BAD_ARGUMENT, x -> x.wash(0, Due.LEAST));
        refusesHeat("the most", Due.BAD_ARGUMENT, x -> x.wash(0, Due.MOST));
    }

    private static void washGrains() {
        Due.same("the last", withDaughters().wash(2, 100), 2);
        refusesHeat("-1", Due.BAD_INDEX, x -> x.wash(-1, 50));
        refusesHeat("3 of 3", Due.BAD_INDEX, x -> x.wash(3, 50));
        refusesHeat("the least", Due.BAD_INDEX, x -> x.wash(Due.LEAST, 50));
        refusesHeat("the most", Due.BAD_INDEX, x -> x.wash(Due.MOST, 50));
        Due.refusesFull("8 of 8", Due.BAD_INDEX, x -> x.wash(8, 50));
        Due.same("7 of 8", Labs.full().wash(7, 100), 768);
    }

    private static void washNamesFirst() {
        refusesHeat("-1, of -1", Due.BAD_INDEX, x -> x.wash(-1, -1));
        refusesHeat("3, of 101", Due.BAD_INDEX, x -> x.wash(3, 101));
    }

    private static void washRoundedDown() {
        Grainclock x = withDaughters();
        Due.same("99 of 1 and 1", x.wash(1, 99), 0);
        Due.same("50 of 1 and 1", x.wash(1, 50), 0);
        Due.same("100 of 1 and 1", x.wash(1, 100), 2);
        Grainclock y = withDaughters();
        Due.same("1", y.wash(0, 1), 5);
        Due.same("50 of 396 and 99", y.wash(0, 50), 247);
        Due.facts("what is left", Labs.ofGrain(y, 0), 198, 400, 202, 50, 100, 50);
    }

    private static void washTakesMothers() {
        Grainclock x = withDaughters();
        x.wash(0, 25);
        Due.facts("25", Labs.ofGrain(x, 0), 300, 400, 100, 75, 100, 25, 1, 0, 1);
        x.wash(0, 100);
        Due.facts("and 100", Labs.ofGrain(x, 0), 0, 400, 400, 0, 100, 100, 1, 0, 1);
        Due.same("and no more", x.wash(0, 100), 0);
        x.pass(1);
        Due.facts("what is GONE does not turn", Labs.ofGrain(x, 0), 0, 400, 400, 0, 100, 100, 2, 0, 1);
        Due.facts("the other grain", Labs.ofGrain(x, 1), 1, 1, 0, 1, 1, 0, 2, 0, 0);
        Due.facts("a run is as it was", Labs.ofRun(x, 0), 0, 0, 400, 400, 0, 2, 2, 1);
    }

    private static void washTouches() {
        Grainclock x = withDaughters();
        x.wash(0, 0);
        Due.same("by a share of 0", x.ofGrain(0, 8), 1);
        Due.same("not the other one", x.ofGrain(1, 8), 0);
        x.wash(1, 99);
        Due.same("by a share that is rounded down to none", x.ofGrain(1, 8), 1);
        Grainclock y = new Grainclock();
        y.grain(0, 0, 0);
        Due.same("a share of no MOTHERS", y.wash(0, 100), 0);
        Due.same("touches too", y.ofGrain(0, 8), 1);
        Grainclock z = withDaughters();
        Due.same("a refused share", Due.outcome(() -> z.wash(0, 101)), Due.ARGUMENT_THROWN);
        Due.same("touches nothing", z.ofGrain(0, 8), 0);
    }

    private static void washOfTheMost() {
        Grainclock x = new Grainclock();
        x.grain(9999, 9999, 0);
        Due.same("9899.01 of each", x.wash(0, 99), 19798);
        Due.same("the rest", x.wash(0, 100), 200);
        Due.facts("what is left", Labs.ofGrain(x, 0), 0, 0, 9999, 0, 0, 9999, 0, 0, 1);
    }

    // ---- promise 6

    private static void pace() {
        Due.test("6 a PACE (2 to 200)", EdgesOfGrainsTest::paces);
        Due.test("6 clock is not 0 or 1", EdgesOfGrainsTest::paceClocks);
        Due.test("6 the exception that is named first", EdgesOfGrainsTest::paceNamesFirst);
        Due.test("6 Returns that before", EdgesOfGrainsTest::paceBefore);
        Due.test("6 of how motes turn from now on", EdgesOfGrainsTest::paceFromNowOn);
        Due.test("6 TABLE: by its PACE of now", EdgesOfGrainsTest::paceOfTable);
    }

    private static void paces() {
        Grainclock x = new Grainclock();
        Due.same("2", x.pace(0, 2), 20);
        Due.same("200", x.pace(0, 200), 2);
        Due.same("2 of the clock 1", x.pace(1, 2), 50);
        Due.same("200 of the clock 1", x.pace(1, 200), 2);
        Due.same("PACE of the clock 0", x.lab(8), 200);
        Due.same("PACE of the clock 1", x.lab(9), 200);
        Due.refusesBusy("1", Due.BAD_ARGUMENT, y -> y.pace(0, 1));
        Due.refusesBusy("201", Due.BAD_ARGUMENT, y -> y.pace(0, 201));
        Due.refusesBusy("0", Due.BAD_ARGUMENT, y -> y.pace(0, 0));
        Due.refusesBusy("-1", Due.BAD_ARGUMENT, y -> y.pace(1, -1));
        Due.refusesBusy("1 of the clock 1", Due.BAD_ARGUMENT, y -> y.pace(1, 1));
        Due.refusesBusy("201 of the clock 1", Due.BAD_ARGUMENT, y -> y.pace(1, 201));
        Due.refusesBusy("the least", Due.BAD_ARGUMENT, y -> y.pace(0, Due.LEAST));
        Due.refusesBusy("the most", Due.BAD_ARGUMENT, y -> y.pace(1, Due.MOST));
    }

    private static void paceClocks() {
        Due.refusesBusy("-1", Due.BAD_INDEX, x -> x.pace(-1, 20));
        Due.refusesBusy("2", Due.BAD_INDEX, x -> x.pace(2, 20));
        Due.refusesBusy("the least", Due.BAD_INDEX, x -> x.pace(Due.LEAST, 20));
        Due.refusesBusy("the most", Due.BAD_INDEX, x -> x.pace(Due.MOST, 20));
        Grainclock x = new Grainclock();
        Due.same("0", x.pace(0, 30), 20);
        Due.same("1", x.pace(1, 40), 50);
    }

    private static void paceNamesFirst() {
        Due.refusesBusy("-1, of 1", Due.BAD_INDEX, x -> x.pace(-1, 1));
        Due.refusesBusy("2, of 201", Due.BAD_INDEX, x -> x.pace(2, 201));
    }

    private static void paceBefore() {
        Grainclock x = new Grainclock();
        Due.same("the first one", x.pace(0, 33), 20);
        Due.same("another one", x.pace(0, 33), 33);
        Due.same("the same one", x.pace(0, 34), 33);
        Due.same("of the other clock", x.pace(1, 34), 50);
        Due.same("a refused one", Due.outcome(() -> x.pace(0, 201)), Due.ARGUMENT_THROWN);
        Due.same("is not told", x.pace(0, 20), 34);
    }

    private static void paceFromNowOn() {
        Grainclock x = new Grainclock();
        x.grain(100, 100, 0);
        x.pass(1);
        x.pace(0, 19);
        x.pace(1, 98);
        Due.facts("nothing at once", Labs.ofGrain(x, 0), 95, 5, 0, 98, 2, 0);
        x.pass(1);
        Due.facts("a year later", Labs.ofGrain(x, 0), 90, 10, 0, 97, 3, 0);
        x.pace(0, 91);
        x.pass(1);
        Due.facts("above all MOTHERS", Labs.ofGrain(x, 0), 90, 10, 0, 97, 3, 0);
        x.pace(0, 90);
        x.pass(1);
        Due.facts("as many as the MOTHERS", Labs.ofGrain(x, 0), 89, 11, 0, 97, 3, 0);
    }

    private static void paceOfTable() {
        Grainclock x = Labs.halving();
        x.grain(16, 16, 0);
        x.pass(2);
        x.run(0, 0, 0, 0);
        x.run(0, 1, 0, 0);
        x.run(0, 0, 0, 0);
        x.withdraw(2);
        x.pace(0, 3);
        // 16 11 8 6 4
        Due.facts("a run of it", Labs.ofRun(x, 0), 0, 0, 4, 12, 0, 4, 4, 1);
        Due.facts("one of the other clock", Labs.ofRun(x, 1), 0, 1, 4, 12, 0, 2, 2, 1);
        Due.facts("one that is withdrawn", Labs.ofRun(x, 2), 0, 0, 4, 12, 0, 4, 4, 0);
        Due.same("what is left", x.left(0, 16, 2), 8);
        Due.same("an age", x.age(0, 4, 12, false), 4);
        x.pace(1, 3);
        x.pace(0, 2);
        Due.facts("the old one again", Labs.ofRun(x, 0), 0, 0, 4, 12, 0, 2, 2, 1);
        Due.facts("the other clock", Labs.ofRun(x, 1), 0, 1, 4, 12, 0, 4, 4, 1);
    }
}
