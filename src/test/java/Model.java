import java.util.ArrayList;
import java.util.HashMap;
import java.util.List;
import java.util.Map;

/** The document once more, word by word and slowly, so that the class can be held against it. */
final class Model {
    private static final class Grain {
        final int[] born = new int[2];
        final int[] mothers = new int[2];
        final int[] daughters = new int[2];
        final int[] gone = new int[2];
        int bed;
        int year;
        boolean touched;
    }

    private static final class Run {
        int label;
        int clock;
        int mothers;
        int daughters;
        int slip;
        int year;
        boolean stands = true;
    }

    private static final class Print {
        int run;
        int pace;
        int on;
    }

    private static final Map<Integer, int[]> TABLES = new HashMap<>();

    private final List<Grain> grains = new ArrayList<>();
    private final List<Run> runs = new ArrayList<>();
    private final List<Print> prints = new ArrayList<>();
    private final int[] paces = {20, 50};
    private int slip = 2;
    private int years = 0;

    private static void index(boolean fine) {
        if (!fine) {
            throw new IndexOutOfBoundsException();
        }
    }

    private static void argument(boolean fine) {
        if (!fine) {
            throw new IllegalArgumentException();
        }
    }

    private static void state(boolean fine) {
        if (!fine) {
            throw new IllegalStateException();
        }
    }

    private static boolean in(int number, int least, int most) {
        return least <= number && number <= most;
    }

    private boolean isGrain(int grain) {
        return in(grain, 0, grains.size() - 1);
    }

    private boolean isRun(int run) {
        return in(run, 0, runs.size() - 1);
    }

    private boolean isPrint(int print) {
        return in(print, 0, prints.size() - 1);
    }

    int grain(int first, int second, int bed) {
        argument(in(first, 0, 9999) && in(second, 0, 9999) && in(bed, 0, 5));
        state(grains.size() < 8);
        Grain g = new Grain();
        g.born[0] = first;
        g.born[1] = second;
        g.mothers[0] = first;
        g.mothers[1] = second;
        g.bed = bed;
        g.year = years;
        grains.add(g);
        return grains.size() - 1;
    }

    int pass(int more) {
        argument(in(more, 1, 300));
        state(years + more <= 3000);
        for (int year = 0; year < more; year++) {
            years++;
            for (Grain g : grains) {
                for (int clock = 0; clock < 2; clock++) {
                    int turned = g.mothers[clock] / paces[clock];
                    g.mothers[clock] -= turned;
                    g.daughters[clock] += turned;
                }
            }
        }
        return years;
    }

    private int take(int grain, int share, boolean ofDaughters) {
        index(isGrain(grain));
        argument(in(share, 0, 100));
        Grain g = grains.get(grain);
        g.touched = true;
        int all = 0;
        for (int clock = 0; clock < 2; clock++) {
            int[] from = ofDaughters ? g.daughters : g.mothers;
            int taken = from[clock] * share / 100;
            from[clock] -= taken;
            g.gone[clock] += taken;
            all += taken;
        }
        return all;
    }

    int heat(int grain, int share) {
        return take(grain, share, true);
    }

    int wash(int grain, int share) {
        return take(grain, share, false);
    }

    int pace(int clock, int pace) {
        index(in(clock, 0, 1));
        argument(in(pace, 2, 200));
        int before = paces[clock];
        paces[clock] = pace;
        return before;
    }

    int slip(int next) {
        argument(in(next, 0, 9));
        int before = slip;
        slip = next;
        return before;
    }

    int run(int grain, int clock, int mothers, int daughters) {
        index(isGrain(grain) && in(clock, 0, 1));
        argument(in(mothers, -slip, slip) && in(daughters, -slip, slip));
        state(runs.size() < 20);
        Run r = new Run();
        r.label = grain;
        r.clock = clock;
        r.mothers = Math.max(grains.get(grain).mothers[clock] + mothers, 0);
        r.daughters = Math.max(grains.get(grain).daughters[clock] + daughters, 0);
        r.slip = slip;
        r.year = years;
        runs.add(r);
        return runs.size() - 1;
    }

    int withdraw(int run) {
        index(isRun(run));
        state(runs.get(run).stands);
        int before = printsThatStand();
        runs.get(run).stands = false;
        return before - printsThatStand();
    }

    int swap(int one, int other) {
        index(isRun(one) && isRun(other));
        argument(one != other);
        exchange(one, other);
        return doubles();
    }

    private void exchange(int one, int other) {
        int label = runs.get(one).label;
        runs.get(one).label = runs.get(other).label;
        runs.get(other).label = label;
    }

    int print(int run, int on) {
        index(isRun(run) && (on == -1 || isPrint(on)));
        state(prints.size() < 10);
        state(runs.get(run).stands);
        state(on == -1 || stands(on));
        Print p = new Print();
        p.run = run;
        p.pace = paces[runs.get(run).clock];
        p.on = on;
        prints.add(p);
        return prints.size() - 1;
    }

    private boolean stands(int print) {
        Print p = prints.get(print);
        Run r = runs.get(p.run);
        return r.stands && paces[r.clock] == p.pace && (p.on == -1 || stands(p.on));
    }

    private int printsThatStand() {
        int count = 0;
        for (int k = 0; k < prints.size(); k++) {
            count += stands(k) ? 1 : 0;
        }
        return count;
    }

    /** All of a table for so many mothers: behind 0 to 3000 years. */
    private static int[] table(int mothers, int pace) {
        int key = mothers * 201 + pace;
        int[] known = TABLES.get(key);
        if (known != null) {
            return known;
        }
        int[] left = new int[3001];
        left[0] = mothers;
        for (int t = 1; t <= 3000; t++) {
            left[t] = left[t - 1] - left[t - 1] / pace;
        }
        if (TABLES.size() == 5000) {
            TABLES.clear();
        }
        TABLES.put(key, left);
        return left;
    }

    private static int early(int m, int d, int s, int pace) {
        int a = m + s;
        int b = Math.max(d - s, 0);
        int[] left = table(a + b, pace);
        for (int t = 0; t <= 3000; t++) {
            if (left[t] <= a) {
                return t;
            }
        }
        return 3000;
    }

    private static int late(int m, int d, int s, int pace) {
        int a = Math.max(m - s, 0);
        int b = d + s;
        int[] left = table(a + b, pace);
        for (int t = 3000; t > 0; t--) {
            if (left[t] >= a) {
                return t;
            }
        }
        return 0;
    }

    private int early(Run r, int pace) {
        return early(r.mothers, r.daughters, r.slip, pace) + years - r.year;
    }

    private int late(Run r, int pace) {
        return late(r.mothers, r.daughters, r.slip, pace) + years - r.year;
    }

    private int early(Run r) {
        return early(r, paces[r.clock]);
    }

    private int late(Run r) {
        return late(r, paces[r.clock]);
    }

    int ofGrain(int grain, int what) {
        index(isGrain(grain));
        argument(in(what, 0, 9));
        Grain g = grains.get(grain);
        int labelled = 0;
        for (Run r : runs) {
            labelled += r.stands && r.label == grain ? 1 : 0;
        }
        int[] all = {g.mothers[0], g.daughters[0], g.gone[0], g.mothers[1], g.daughters[1], g.gone[1],
            years - g.year, g.bed, g.touched ? 1 : 0, labelled};
        return all[what];
    }

    int ofRun(int run, int what) {
        index(isRun(run));
        argument(in(what, 0, 7));
        Run r = runs.get(run);
        int[] all = {r.label, r.clock, r.mothers, r.daughters, r.slip, early(r), late(r), r.stands ? 1 : 0};
        return all[what];
    }

    int span(int grain, int clock, int what) {
        index(isGrain(grain) && in(clock, -1, 1));
        argument(in(what, 0, 2));
        int early = 0;
        int late = 3000;
        for (Run r : runs) {
            if (r.stands && r.label == grain && (clock == -1 || clock == r.clock)) {
                early = Math.max(early, early(r));
                late = Math.min(late, late(r));
            }
        }
        int[] all = {early, late, early > late ? 1 : 0};
        return all[what];
    }

    int narrowed(int grain, boolean isLate) {
        index(isGrain(grain));
        int best = span(grain, -1, isLate ? 1 : 0);
        for (int k = 0; k < grains.size(); k++) {
            int bed = grains.get(k).bed;
            if (!isLate && bed > grains.get(grain).bed) {
                best = Math.max(best, span(k, -1, 0));
            }
            if (isLate && bed < grains.get(grain).bed) {
                best = Math.min(best, span(k, -1, 1));
            }
        }
        return best;
    }

    int ofPrint(int print, int what) {
        index(isPrint(print));
        argument(in(what, 0, 4));
        Print p = prints.get(print);
        int below = 0;
        for (int k = p.on; k != -1; k = prints.get(k).on) {
            below++;
        }
        int[] all = {p.run, p.pace, p.on, stands(print) ? 1 : 0, below};
        return all[what];
    }

    int lab(int what) {
        argument(in(what, 0, 10));
        int runsThatStand = 0;
        for (Run r : runs) {
            runsThatStand += r.stands ? 1 : 0;
        }
        int quarrels = 0;
        int motes = 0;
        for (int k = 0; k < grains.size(); k++) {
            quarrels += span(k, -1, 2);
            motes += grains.get(k).born[0] + grains.get(k).born[1];
        }
        int[] all = {years, grains.size(), runsThatStand, printsThatStand(), slip, what == 5 ? doubles() : 0,
            quarrels, what == 7 ? Integer.bitCount(fewest()) : 0, paces[0], paces[1], motes};
        return all[what];
    }

    String text(int grain) {
        index(isGrain(grain));
        return span(grain, -1, 0) + "-" + span(grain, -1, 1) + (span(grain, -1, 2) == 1 ? "!" : "")
            + (grains.get(grain).touched ? "*" : "");
    }

    int left(int clock, int mothers, int after) {
        index(in(clock, 0, 1));
        argument(in(mothers, 0, 19999) && in(after, 0, 3000));
        return table(mothers, paces[clock])[after];
    }

    int age(int clock, int mothers, int daughters, boolean isLate) {
        index(in(clock, 0, 1));
        argument(in(mothers, 0, 9999) && in(daughters, 0, 9999));
        return isLate ? late(mothers, daughters, 0, paces[clock]) : early(mothers, daughters, 0, paces[clock]);
    }

    int fewest() {
        int count = grains.size();
        int[] early = new int[count];
        int[] late = new int[count];
        for (int k = 0; k < count; k++) {
            early[k] = span(k, -1, 0);
            late[k] = span(k, -1, 1);
        }
        for (int size = 0; size <= count; size++) {
            for (int without = 0; without < 1 << count; without++) {
                if (Integer.bitCount(without) == size && agree(without, early, late)) {
                    return without;
                }
            }
        }
        return -1;
    }

    private boolean agree(int without, int[] early, int[] late) {
        for (int k = 0; k < early.length; k++) {
            if ((without >> k & 1) == 0) {
                if (early[k] > late[k]) {
                    return false;
                }
                for (int j = 0; j < early.length; j++) {
                    boolean above = grains.get(k).bed > grains.get(j).bed;
                    if ((without >> j & 1) == 0 && above && early[k] > late[j]) {
                        return false;
                    }
                }
            }
        }
        return true;
    }

    private int doubles() {
        return doubles(spans());
    }

    private int[][] spans() {
        int[][] spans = new int[runs.size()][];
        for (int k = 0; k < spans.length; k++) {
            spans[k] = new int[] {early(runs.get(k)), late(runs.get(k))};
        }
        return spans;
    }

    private int doubles(int[][] spans) {
        int count = 0;
        for (int k = 0; k < spans.length; k++) {
            for (int j = k + 1; j < spans.length; j++) {
                Run one = runs.get(k);
                Run other = runs.get(j);
                boolean apart = spans[k][0] > spans[j][1] || spans[j][0] > spans[k][1];
                count += one.stands && other.stands && one.label == other.label && apart ? 1 : 0;
            }
        }
        return count;
    }

    int bestSwap(boolean isFirst) {
        int[][] spans = spans();
        int fewest = doubles(spans);
        int best = -1;
        for (int k = 0; k < spans.length; k++) {
            for (int j = k + 1; j < spans.length; j++) {
                if (runs.get(k).stands && runs.get(j).stands) {
                    exchange(k, j);
                    int then = doubles(spans);
                    exchange(k, j);
                    if (then < fewest) {
                        fewest = then;
                        best = isFirst ? k : j;
                    }
                }
            }
        }
        return best;
    }

    int changed(int clock, int pace) {
        index(in(clock, 0, 1));
        argument(in(pace, 2, 200));
        int count = 0;
        for (Run r : runs) {
            boolean meet = early(r, pace) <= late(r) && early(r) <= late(r, pace);
            count += r.stands && r.clock == clock && !meet ? 1 : 0;
        }
        return count;
    }

    int wider(int grain, int run) {
        index(isGrain(grain) && isRun(run));
        Run r = runs.get(run);
        state(r.stands);
        int now = span(grain, -1, 1) - span(grain, -1, 0);
        r.stands = false;
        int then = span(grain, -1, 1) - span(grain, -1, 0);
        r.stands = true;
        return then - now;
    }

    boolean isSound() {
        // What the document asks here follows from the rest of it.
        return true;
    }

    long digest() {
        long d = 3643;
        for (int what = 0; what <= 10; what++) {
            d = d * 31 + lab(what);
        }
        for (int k = 0; k < grains.size(); k++) {
            for (int what = 0; what <= 9; what++) {
                d = d * 31 + ofGrain(k, what);
            }
            d = d * 31 + span(k, -1, 0);
            d = d * 31 + span(k, -1, 1);
            d = d * 31 + narrowed(k, false);
            d = d * 31 + narrowed(k, true);
        }
        for (int k = 0; k < runs.size(); k++) {
            for (int what = 0; what <= 7; what++) {
                d = d * 31 + ofRun(k, what);
            }
        }
        for (int k = 0; k < prints.size(); k++) {
            for (int what = 1; what <= 4; what++) {
                d = d * 31 + ofPrint(k, what);
            }
        }
        d = d * 31 + fewest();
        d = d * 31 + bestSwap(true);
        d = d * 31 + bestSwap(false);
        return d * 31 + (isSound() ? 1 : 0);
    }

    int grainCount() {
        return grains.size();
    }

    int runCount() {
        return runs.size();
    }

    int printCount() {
        return prints.size();
    }
}
