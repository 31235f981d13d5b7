/**
 * Holds the class against the slow model of the document, call by call, over long runs of drawn calls. The draws come
 * from a fixed sequence, so that each time the same calls are made.
 */
public final class ModelTest {
    private static final int OBJECTS = 200;
    // An object is promised for 512 calls; a draw makes at most a few at once.
    private static final int CALLS = 500;

    private static long seed;
    private static int made;

    // What the runs came to; each must be seen often enough for the comparison to be worth something.
    private static int refusals;
    private static int quarrels;
    private static int fewestBeyondQuarrels;
    private static int doubles;
    private static int bestSwaps;
    private static int printsFallen;
    private static int printsBackByPace;
    private static int changes;
    private static int widened;
    private static int narrower;

    private ModelTest() {
    }

    public static void main(String[] args) {
        for (int object = 0; object < OBJECTS; object++) {
            drive(object);
        }
        seen("refusals", refusals);
        seen("quarrels", quarrels);
        seen("fewest beyond quarrels", fewestBeyondQuarrels);
        seen("doubles", doubles);
        seen("best swaps", bestSwaps);
        seen("prints fallen", printsFallen);
        seen("prints back by a pace", printsBackByPace);
        seen("changes", changes);
        seen("wider spans", widened);
        seen("narrower spans", narrower);
        Due.end();
    }

    private static void seen(String what, int times) {
        System.out.println(what + " seen " + times + " times");
        Due.same(what + " seen at least 30 times", times >= 30, true);
    }

    private static int draw(int below) {
        seed = seed * 6364136223846793005L + 1442695040888963407L;
        return (int) Math.floorMod(seed >>> 33, (long) below);
    }

    private static int between(int least, int most) {
        return least + draw(most - least + 1);
    }

    /** A number of least to most, now and then one beside these. */
    private static int nearly(int least, int most) {
        int how = draw(40);
        if (how == 0) {
            return least - 1;
        }
        if (how == 1) {
            return most + 1;
        }
        if (how == 2) {
            return draw(2) == 0 ? Integer.MIN_VALUE : Integer.MAX_VALUE;
        }
        if (how < 6) {
            return draw(2) == 0 ? least : most;
        }
        return least > most ? least : between(least, most);
    }

    private static void drive(int object) {
        seed = 77_000L + object;
        Grainclock x = new Grainclock();
        Model model = new Model();
        made = 0;
        for (int turn = 0; made < CALLS; turn++) {
            String name = "object " + object + " call " + made + " ";
            if (turn % 25 == 24) {
                Due.same(name + "digest", x.digest(), model.digest());
                Due.same(name + "isSound", x.isSound(), model.isSound());
                made += 2;
            } else if (draw(100) < 55) {
                act(name, x, model, object);
            } else {
                ask(name, x, model);
            }
        }
        count(model);
    }

    private static void count(Model model) {
        int quarrel = model.lab(6);
        quarrels += quarrel;
        fewestBeyondQuarrels += model.lab(7) - quarrel;
        doubles += model.lab(5);
        bestSwaps += model.bestSwap(true) == -1 ? 0 : 1;
    }

    private static int anyGrain(Model model) {
        return nearly(0, model.grainCount() - 1);
    }

    private static int anyRun(Model model) {
        return nearly(0, model.runCount() - 1);
    }

    private static int anyPace() {
        int how = draw(4);
        if (how == 0) {
            return nearly(2, 200);
        }
        return how == 1 ? between(2, 9) : 20 + 5 * draw(7);
    }

    private static int anyMothers() {
        int how = draw(4);
        if (how == 0) {
            return nearly(0, 9999);
        }
        return how == 1 ? draw(60) : between(3000, 9999);
    }

    private static int anyYears(int object) {
        if (draw(6) == 0) {
            return nearly(1, 300);
        }
        return object % 3 == 0 ? between(1, 60) : between(1, 9);
    }

    private static void act(String name, Grainclock x, Model model, int object) {
        switch (draw(12)) {
            case 0:
            case 1:
                bear(name, x, model);
                break;
            case 2:
                spend(name, x, model, anyYears(object));
                break;
            case 3:
                takeOut(name, x, model);
                break;
            case 4:
                tell(name, x, model);
                break;
            case 5:
            case 6:
            case 7:
                count(name, x, model);
                break;
            case 8:
                withdraw(name, x, model);
                break;
            case 9:
                swap(name, x, model);
                break;
            default:
                print(name, x, model);
                break;
        }
    }

    private static void same(String name, String what, Grainclock x, Model model, Due.Call got, Due.Call want) {
        String due = Due.outcome(want);
        Due.same(name + what, Due.outcome(got), due);
        made++;
        if (due.startsWith("throws")) {
            refusals++;
            if (draw(8) == 0) {
                Due.same(name + what + " changes nothing", x.digest(), model.digest());
                made++;
            }
        }
    }

    private static void bear(String name, Grainclock x, Model model) {
        int first = anyMothers();
        int second = anyMothers();
        int bed = nearly(0, 5);
        same(name, "grain(" + first + ", " + second + ", " + bed + ")", x, model,
            () -> x.grain(first, second, bed), () -> model.grain(first, second, bed));
    }

    private static void spend(String name, Grainclock x, Model model, int years) {
        same(name, "pass(" + years + ")", x, model, () -> x.pass(years), () -> model.pass(years));
    }

    private static void takeOut(String name, Grainclock x, Model model) {
        int grain = anyGrain(model);
        int share = nearly(0, draw(3) == 0 ? 100 : 3);
        if (draw(2) == 0) {
            same(name, "heat(" + grain + ", " + share + ")", x, model,
                () -> x.heat(grain, share), () -> model.heat(grain, share));
        } else {
            same(name, "wash(" + grain + ", " + share + ")", x, model,
                () -> x.wash(grain, share), () -> model.wash(grain, share));
        }
    }

    private static void tell(String name, Grainclock x, Model model) {
        if (draw(2) == 0) {
            int slip = nearly(0, 9);
            same(name, "slip(" + slip + ")", x, model, () -> x.slip(slip), () -> model.slip(slip));
            return;
        }
        int clock = nearly(0, 1);
        int pace = anyPace();
        int before = model.lab(3);
        same(name, "pace(" + clock + ", " + pace + ")", x, model,
            () -> x.pace(clock, pace), () -> model.pace(clock, pace));
        // Soon back, so that prints that fell may stand again.
        if (draw(3) != 0) {
            same(name, "pace(0, 20)", x, model, () -> x.pace(0, 20), () -> model.pace(0, 20));
            same(name, "pace(1, 50)", x, model, () -> x.pace(1, 50), () -> model.pace(1, 50));
        }
        printsBackByPace += model.lab(3) > before ? 1 : 0;
    }

    private static void count(String name, Grainclock x, Model model) {
        int grain = anyGrain(model);
        int clock = nearly(0, 1);
        int slip = model.lab(4);
        int mothers = nearly(-slip, slip);
        int daughters = nearly(-slip, slip);
        same(name, "run(" + grain + ", " + clock + ", " + mothers + ", " + daughters + ")", x, model,
            () -> x.run(grain, clock, mothers, daughters), () -> model.run(grain, clock, mothers, daughters));
    }

    private static void withdraw(String name, Grainclock x, Model model) {
        // Rarely, so that runs are left that can be asked about.
        if (draw(4) == 0) {
            int run = anyRun(model);
            int before = model.lab(3);
            same(name, "withdraw(" + run + ")", x, model, () -> x.withdraw(run), () -> model.withdraw(run));
            printsFallen += before - model.lab(3);
        }
    }

    private static void swap(String name, Grainclock x, Model model) {
        int one = anyRun(model);
        int other = anyRun(model);
        same(name, "swap(" + one + ", " + other + ")", x, model,
            () -> x.swap(one, other), () -> model.swap(one, other));
    }

    private static void print(String name, Grainclock x, Model model) {
        int run = anyRun(model);
        int on = nearly(-1, model.printCount() - 1);
        same(name, "print(" + run + ", " + on + ")", x, model,
            () -> x.print(run, on), () -> model.print(run, on));
    }

    private static void ask(String name, Grainclock x, Model model) {
        switch (draw(6)) {
            case 0:
                askGrain(name, x, model);
                break;
            case 1:
                askRun(name, x, model);
                break;
            case 2:
                askPrint(name, x, model);
                break;
            case 3:
                askLab(name, x, model);
                break;
            case 4:
                askTable(name, x, model);
                break;
            default:
                askWhatWouldBe(name, x, model);
                break;
        }
    }

    private static void askGrain(String name, Grainclock x, Model model) {
        int grain = anyGrain(model);
        int what = nearly(0, 9);
        int clock = nearly(-1, 1);
        int which = nearly(0, 2);
        boolean isLate = draw(2) == 0;
        switch (draw(4)) {
            case 0:
                same(name, "ofGrain(" + grain + ", " + what + ")", x, model,
                    () -> x.ofGrain(grain, what), () -> model.ofGrain(grain, what));
                break;
            case 1:
                same(name, "span(" + grain + ", " + clock + ", " + which + ")", x, model,
                    () -> x.span(grain, clock, which), () -> model.span(grain, clock, which));
                break;
            case 2:
                same(name, "narrowed(" + grain + ", " + isLate + ")", x, model,
                    () -> x.narrowed(grain, isLate), () -> model.narrowed(grain, isLate));
                if (grain >= 0 && grain < model.grainCount()) {
                    narrower += model.narrowed(grain, isLate) == model.span(grain, -1, isLate ? 1 : 0) ? 0 : 1;
                }
                break;
            default:
                Due.same(name + "text(" + grain + ")",
                    Due.outcomeOfText(() -> x.text(grain)), Due.outcomeOfText(() -> model.text(grain)));
                made++;
                break;
        }
    }

    private static void askRun(String name, Grainclock x, Model model) {
        int run = anyRun(model);
        int what = nearly(0, 7);
        same(name, "ofRun(" + run + ", " + what + ")", x, model,
            () -> x.ofRun(run, what), () -> model.ofRun(run, what));
    }

    private static void askPrint(String name, Grainclock x, Model model) {
        int print = nearly(0, model.printCount() - 1);
        int what = nearly(0, 4);
        same(name, "ofPrint(" + print + ", " + what + ")", x, model,
            () -> x.ofPrint(print, what), () -> model.ofPrint(print, what));
    }

    private static void askLab(String name, Grainclock x, Model model) {
        int what = nearly(0, 10);
        same(name, "lab(" + what + ")", x, model, () -> x.lab(what), () -> model.lab(what));
    }

    private static void askTable(String name, Grainclock x, Model model) {
        int clock = nearly(0, 1);
        int years = draw(2) == 0 ? nearly(0, 3000) : draw(120);
        int many = draw(2) == 0 ? nearly(0, 19999) : draw(500);
        int mothers = anyMothers();
        int daughters = anyMothers();
        boolean isLate = draw(2) == 0;
        if (draw(2) == 0) {
            same(name, "left(" + clock + ", " + many + ", " + years + ")", x, model,
                () -> x.left(clock, many, years), () -> model.left(clock, many, years));
        } else {
            same(name, "age(" + clock + ", " + mothers + ", " + daughters + ", " + isLate + ")", x, model,
                () -> x.age(clock, mothers, daughters, isLate), () -> model.age(clock, mothers, daughters, isLate));
        }
    }

    private static void askWhatWouldBe(String name, Grainclock x, Model model) {
        int clock = nearly(0, 1);
        int pace = anyPace();
        int grain = anyGrain(model);
        int run = anyRun(model);
        boolean isFirst = draw(2) == 0;
        switch (draw(4)) {
            case 0:
                same(name, "fewest()", x, model, () -> x.fewest(), () -> model.fewest());
                break;
            case 1:
                same(name, "bestSwap(" + isFirst + ")", x, model,
                    () -> x.bestSwap(isFirst), () -> model.bestSwap(isFirst));
                break;
            case 2:
                same(name, "changed(" + clock + ", " + pace + ")", x, model,
                    () -> x.changed(clock, pace), () -> model.changed(clock, pace));
                changes += Due.outcome(() -> model.changed(clock, pace)).length() == 1
                    && model.changed(clock, pace) > 0 ? 1 : 0;
                break;
            default:
                askWider(name, x, model, grain, run);
                break;
        }
    }

    private static void askWider(String name, Grainclock x, Model model, int grain, int run) {
        boolean isOne = run >= 0 && run < model.runCount();
        int asked = isOne && draw(2) == 0 ? model.ofRun(run, 0) : grain;
        same(name, "wider(" + asked + ", " + run + ")", x, model,
            () -> x.wider(asked, run), () -> model.wider(asked, run));
        String due = Due.outcome(() -> model.wider(asked, run));
        widened += due.startsWith("throws") || due.equals("0") ? 0 : 1;
    }
}
