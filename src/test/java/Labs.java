import java.util.ArrayList;
import java.util.List;

/** Laboratories to start a test from, and all that can be asked of one. */
final class Labs {
    private Labs() {
    }

    /** Both clocks at pace 2 and no slip, so that 2^n mothers date to a year. */
    static Grainclock halving() {
        Grainclock x = new Grainclock();
        x.pace(0, 2);
        x.pace(1, 2);
        x.slip(0);
        return x;
    }

    /** Grains of 6, 3 and 1 years in the beds 0, 2 and 4, each with a run of each clock: 0 and 1, 2 and 3, 4 and 5. */
    static Grainclock threeGrains() {
        Grainclock x = halving();
        x.grain(1024, 1024, 0);
        x.pass(3);
        x.grain(1024, 512, 2);
        x.pass(2);
        x.grain(64, 64, 4);
        x.pass(1);
        for (int grain = 0; grain < 3; grain++) {
            x.run(grain, 0, 0, 0);
            x.run(grain, 1, 0, 0);
        }
        return x;
    }

    /** The same, with something of all that can happen: run 3 and print 1 fell, grain 1 is touched, 0 and 4 swapped. */
    static Grainclock busy() {
        Grainclock x = threeGrains();
        x.print(0, -1);
        x.print(3, 0);
        x.print(5, 0);
        x.withdraw(3);
        x.wash(1, 50);
        x.swap(0, 4);
        x.slip(2);
        return x;
    }

    /** All places taken: 8 grains of 8 to 1 years, 20 runs, and 10 prints in one chain. */
    static Grainclock full() {
        Grainclock x = halving();
        for (int grain = 0; grain < 8; grain++) {
            x.grain(1024, 512, grain % 6);
            x.pass(1);
        }
        for (int run = 0; run < 20; run++) {
            x.run(run % 8, run / 8 % 2, 0, 0);
        }
        for (int print = 0; print < 10; print++) {
            x.print(print, print - 1);
        }
        return x;
    }

    /** All years have gone by, over one grain with one run. */
    static Grainclock old() {
        Grainclock x = halving();
        x.grain(1024, 1024, 0);
        x.pass(6);
        x.run(0, 0, 0, 0);
        for (int k = 0; k < 9; k++) {
            x.pass(300);
        }
        x.pass(294);
        return x;
    }

    static int[] ofGrain(Grainclock x, int grain) {
        int[] got = new int[10];
        for (int what = 0; what < 10; what++) {
            got[what] = x.ofGrain(grain, what);
        }
        return got;
    }

    static int[] ofRun(Grainclock x, int run) {
        int[] got = new int[8];
        for (int what = 0; what < 8; what++) {
            got[what] = x.ofRun(run, what);
        }
        return got;
    }

    static int[] ofPrint(Grainclock x, int print) {
        int[] got = new int[5];
        for (int what = 0; what < 5; what++) {
            got[what] = x.ofPrint(print, what);
        }
        return got;
    }

    static int[] lab(Grainclock x) {
        int[] got = new int[11];
        for (int what = 0; what < 11; what++) {
            got[what] = x.lab(what);
        }
        return got;
    }

    /** EARLY, LATE and whether in QUARREL. */
    static int[] span(Grainclock x, int grain, int clock) {
        return new int[] {x.span(grain, clock, 0), x.span(grain, clock, 1), x.span(grain, clock, 2)};
    }

    static int runs(Grainclock x) {
        for (int run = 0; run < 20; run++) {
            if (!isThere(runAsked(x, run))) {
                return run;
            }
        }
        return 20;
    }

    static int prints(Grainclock x) {
        for (int print = 0; print < 10; print++) {
            if (!isThere(printAsked(x, print))) {
                return print;
            }
        }
        return 10;
    }

    private static boolean isThere(Due.Call call) {
        return !Due.outcome(call).startsWith("throws");
    }

    private static Due.Call runAsked(Grainclock x, int run) {
        return () -> x.ofRun(run, 0);
    }

    private static Due.Call printAsked(Grainclock x, int print) {
        return () -> x.ofPrint(print, 0);
    }

    /** The checksum of promise 26 by what the object answers to all else. */
    static long digestOf(Grainclock x) {
        long d = 3643;
        d = with(d, lab(x));
        for (int grain = 0; grain < x.lab(1); grain++) {
            d = with(d, ofGrain(x, grain));
            d = with(d, x.span(grain, -1, 0), x.span(grain, -1, 1));
            d = with(d, x.narrowed(grain, false), x.narrowed(grain, true));
        }
        int runs = runs(x);
        for (int run = 0; run < runs; run++) {
            d = with(d, ofRun(x, run));
        }
        int prints = prints(x);
        for (int print = 0; print < prints; print++) {
            int[] all = ofPrint(x, print);
            d = with(d, all[1], all[2], all[3], all[4]);
        }
        return with(d, x.fewest(), x.bestSwap(true), x.bestSwap(false), x.isSound() ? 1 : 0);
    }

    private static long with(long sum, int... numbers) {
        long d = sum;
        for (int v : numbers) {
            d = d * 31 + v;
        }
        return d;
    }

    /** All that can be asked, and what the next of each doing answers; it takes up to some 430 calls of the 512. */
    static List<String> all(Grainclock x) {
        List<String> all = new ArrayList<>();
        note(all, "lab", lab(x));
        for (int grain = 0; grain < x.lab(1); grain++) {
            note(all, "ofGrain " + grain, ofGrain(x, grain));
            for (int clock = -1; clock < 2; clock++) {
                note(all, "span " + grain + " by " + clock, span(x, grain, clock));
            }
            note(all, "narrowed " + grain, x.narrowed(grain, false), x.narrowed(grain, true));
            all.add("text " + grain + " " + x.text(grain));
        }
        int runs = runs(x);
        for (int run = 0; run < runs; run++) {
            note(all, "ofRun " + run, ofRun(x, run));
        }
        int prints = prints(x);
        for (int print = 0; print < prints; print++) {
            note(all, "ofPrint " + print, ofPrint(x, print));
        }
        note(all, "fewest", x.fewest());
        note(all, "bestSwap", x.bestSwap(true), x.bestSwap(false));
        all.add("isSound " + x.isSound());
        all.add("next grain " + Due.outcome(() -> x.grain(64, 64, 3)));
        all.add("next run " + Due.outcome(() -> x.run(0, 1, 0, 0)));
        all.add("next print " + Due.outcome(() -> x.print(0, -1)));
        all.add("next slip " + x.slip(1));
        all.add("next years " + Due.outcome(() -> x.pass(1)));
        all.add("digest " + x.digest());
        return all;
    }

    private static void note(List<String> all, String what, int... answers) {
        StringBuilder words = new StringBuilder(what);
        for (int answer : answers) {
            words.append(' ').append(answer);
        }
        all.add(words.toString());
    }
}
