import java.util.ArrayList;

/** A laboratory that dates rock by two clocks in one grain. */
public final class Grainclock {
    private static final int NONE = -1;
    private static final int MOST_GRAINS = 8;
    private static final int MOST_RUNS = 20;
    private static final int MOST_PRINTS = 10;
    private static final int MOST_YEARS = 3000;
    private static final int MOST_YEARS_AT_ONCE = 300;
    private static final int MOST_MOTES = 9999;
    private static final int MOST_MOTES_IN_TABLE = 19999;
    private static final int TOP_BED = 5;
    private static final int WHOLE_SHARE = 100;
    private static final int LEAST_PACE = 2;
    private static final int MOST_PACE = 200;
    private static final int MOST_SLIP = 9;
    private static final int LAST_OF_LAB = 10;
    private static final int LAST_OF_GRAIN = 9;
    private static final int LAST_OF_RUN = 7;
    private static final int LAST_OF_SPAN = 2;
    private static final int LAST_OF_PRINT = 4;
    private static final long DIGEST_START = 3643L;
    private static final long DIGEST_FACTOR = 31L;

    private final ArrayList<Grain> grains;
    private final ArrayList<Run> runs;
    private final ArrayList<Print> prints;
    private int firstPace;
    private int secondPace;
    private int slip;
    private int yearsEver;

    public Grainclock() {
        grains = new ArrayList<>();
        runs = new ArrayList<>();
        prints = new ArrayList<>();
        firstPace = 20;
        secondPace = 50;
        slip = 2;
        yearsEver = 0;
    }

    // ---- grains

    public int grain(int first, int second, int bed) throws IllegalArgumentException, IllegalStateException {
        if (!isWithin(first, 0, MOST_MOTES) || !isWithin(second, 0, MOST_MOTES) || !isWithin(bed, 0, TOP_BED)) {
            throw new IllegalArgumentException("mothers or a bed that cannot be");
        }
        if (grains.size() >= MOST_GRAINS) {
            throw new IllegalStateException("no more grains");
        }
        int number = grains.size();
        grains.add(new Grain(number, new Motes(first), new Motes(second), bed, yearsEver));
        return number;
    }

    public int pass(int years) throws IllegalArgumentException, IllegalStateException {
        if (!isWithin(years, 1, MOST_YEARS_AT_ONCE)) {
            throw new IllegalArgumentException("so many years cannot go by at once");
        }
        if (yearsEver + years > MOST_YEARS) {
            throw new IllegalStateException("too many years ever");
        }
        for (int k = 0; k < grains.size(); k++) {
            Grain grain = grains.get(k);
            grain.first.turnFor(years, firstPace);
            grain.second.turnFor(years, secondPace);
        }
        yearsEver += years;
        return yearsEver;
    }

    public int heat(int grain, int share) throws IndexOutOfBoundsException, IllegalArgumentException {
        if (!isGrain(grain)) {
            throw new IndexOutOfBoundsException("no such grain");
        }
        if (!isWithin(share, 0, WHOLE_SHARE)) {
            throw new IllegalArgumentException("no such share");
        }
        Grain heated = grains.get(grain);
        heated.isTouched = true;
        return heated.first.loseDaughters(share) + heated.second.loseDaughters(share);
    }

    public int wash(int grain, int share) throws IndexOutOfBoundsException, IllegalArgumentException {
        if (!isGrain(grain)) {
            throw new IndexOutOfBoundsException("no such grain");
        }
        if (!isWithin(share, 0, WHOLE_SHARE)) {
            throw new IllegalArgumentException("no such share");
        }
        Grain washed = grains.get(grain);
        washed.isTouched = true;
        return washed.first.loseMothers(share) + washed.second.loseMothers(share);
    }

    public int pace(int clock, int pace) throws IndexOutOfBoundsException, IllegalArgumentException {
        if (!isClock(clock)) {
            throw new IndexOutOfBoundsException("no such clock");
        }
        if (!isWithin(pace, LEAST_PACE, MOST_PACE)) {
            throw new IllegalArgumentException("no such pace");
        }
        int before = paceOf(clock);
        if (clock == 0) {
            firstPace = pace;
        } else {
            secondPace = pace;
        }
        for (int k = 0; k < runs.size(); k++) {
            Run run = runs.get(k);
            if (run.clock == clock) {
                run.dateBy(pace);
            }
        }
        return before;
    }

    // ---- runs, labels, prints

    public int slip(int slip) throws IllegalArgumentException {
        if (!isWithin(slip, 0, MOST_SLIP)) {
            throw new IllegalArgumentException("no such slip");
        }
        int before = this.slip;
        this.slip = slip;
        return before;
    }

    public int run(int grain, int clock, int mothers, int daughters)
            throws IndexOutOfBoundsException, IllegalArgumentException, IllegalStateException {
        if (!isGrain(grain) || !isClock(clock)) {
            throw new IndexOutOfBoundsException("no such grain or clock");
        }
        if (!isWithin(mothers, -slip, slip) || !isWithin(daughters, -slip, slip)) {
            throw new IllegalArgumentException("an error beyond the slip");
        }
        if (runs.size() >= MOST_RUNS) {
            throw new IllegalStateException("no more runs");
        }
        Grain label = grains.get(grain);
        Motes motes = label.of(clock);
        int mothersCounted = Math.max(0, motes.mothers + mothers);
        int daughtersCounted = Math.max(0, motes.daughters + daughters);
        int number = runs.size();
        Run made = new Run(number, label, clock, mothersCounted, daughtersCounted, slip, yearsEver);
        made.dateBy(paceOf(clock));
        runs.add(made);
        return number;
    }

    public int withdraw(int run) throws IndexOutOfBoundsException, IllegalStateException {
        if (!isRun(run)) {
            throw new IndexOutOfBoundsException("no such run");
        }
        Run withdrawn = runs.get(run);
        if (!withdrawn.stands) {
            throw new IllegalStateException("the run is withdrawn already");
        }
        int before = countPrintsThatStand();
        withdrawn.stands = false;
        return before - countPrintsThatStand();
    }

    public int swap(int one, int other) throws IndexOutOfBoundsException, IllegalArgumentException {
        if (!isRun(one) || !isRun(other)) {
            throw new IndexOutOfBoundsException("no such run");
        }
        if (one == other) {
            throw new IllegalArgumentException("a run is not swapped with itself");
        }
        Run first = runs.get(one);
        Run second = runs.get(other);
        Grain label = first.label;
        first.label = second.label;
        second.label = label;
        return countDoubles();
    }

    public int print(int run, int on) throws IndexOutOfBoundsException, IllegalStateException {
        if (!isRun(run) || (on != NONE && !isPrint(on))) {
            throw new IndexOutOfBoundsException("no such run or print");
        }
        Run dated = runs.get(run);
        Print base = isPrint(on) ? prints.get(on) : null;
        if (prints.size() >= MOST_PRINTS || !dated.stands || !allStandFrom(base)) {
            throw new IllegalStateException("nothing can be printed on that");
        }
        int number = prints.size();
        prints.add(new Print(number, dated, paceOf(dated.clock), base));
        return number;
    }

    // ---- what is asked

    public int ofGrain(int grain, int what) throws IndexOutOfBoundsException, IllegalArgumentException {
        if (!isGrain(grain)) {
            throw new IndexOutOfBoundsException("no such grain");
        }
        if (!isWithin(what, 0, LAST_OF_GRAIN)) {
            throw new IllegalArgumentException("no such question");
        }
        return grainFact(grains.get(grain), what);
    }

    public int ofRun(int run, int what) throws IndexOutOfBoundsException, IllegalArgumentException {
        if (!isRun(run)) {
            throw new IndexOutOfBoundsException("no such run");
        }
        if (!isWithin(what, 0, LAST_OF_RUN)) {
            throw new IllegalArgumentException("no such question");
        }
        return runFact(runs.get(run), what);
    }

    public int span(int grain, int clock, int what) throws IndexOutOfBoundsException, IllegalArgumentException {
        if (!isGrain(grain) || (clock != NONE && !isClock(clock))) {
            throw new IndexOutOfBoundsException("no such grain or clock");
        }
        if (!isWithin(what, 0, LAST_OF_SPAN)) {
            throw new IllegalArgumentException("no such question");
        }
        Grain asked = grains.get(grain);
        int early = earlyOf(asked, clock, NONE);
        int late = lateOf(asked, clock, NONE);
        if (what == 0) {
            return early;
        }
        return what == 1 ? late : oneIf(early > late);
    }

    public int narrowed(int grain, boolean isLate) throws IndexOutOfBoundsException {
        if (!isGrain(grain)) {
            throw new IndexOutOfBoundsException("no such grain");
        }
        Grain asked = grains.get(grain);
        return isLate ? narrowedLate(asked) : narrowedEarly(asked);
    }

    public int ofPrint(int print, int what) throws IndexOutOfBoundsException, IllegalArgumentException {
        if (!isPrint(print)) {
            throw new IndexOutOfBoundsException("no such print");
        }
        if (!isWithin(what, 0, LAST_OF_PRINT)) {
            throw new IllegalArgumentException("no such question");
        }
        return printFact(prints.get(print), what);
    }

    public int lab(int what) throws IllegalArgumentException {
        if (!isWithin(what, 0, LAST_OF_LAB)) {
            throw new IllegalArgumentException("no such question");
        }
        return labFact(what);
    }

    public String text(int grain) throws IndexOutOfBoundsException {
        if (!isGrain(grain)) {
            throw new IndexOutOfBoundsException("no such grain");
        }
        Grain asked = grains.get(grain);
        int early = earlyOf(asked, NONE, NONE);
        int late = lateOf(asked, NONE, NONE);
        StringBuilder words = new StringBuilder();
        words.append(early).append('-').append(late);
        if (early > late) {
            words.append('!');
        }
        if (asked.isTouched) {
            words.append('*');
        }
        return words.toString();
    }

    // ---- what would be

    public int left(int clock, int mothers, int years) throws IndexOutOfBoundsException, IllegalArgumentException {
        if (!isClock(clock)) {
            throw new IndexOutOfBoundsException("no such clock");
        }
        if (!isWithin(mothers, 0, MOST_MOTES_IN_TABLE) || !isWithin(years, 0, MOST_YEARS)) {
            throw new IllegalArgumentException("mothers or years that the table does not have");
        }
        return Table.leftBehind(paceOf(clock), mothers, years);
    }

    public int age(int clock, int mothers, int daughters, boolean isLate)
            throws IndexOutOfBoundsException, IllegalArgumentException {
        if (!isClock(clock)) {
            throw new IndexOutOfBoundsException("no such clock");
        }
        if (!isWithin(mothers, 0, MOST_MOTES) || !isWithin(daughters, 0, MOST_MOTES)) {
            throw new IllegalArgumentException("so many motes cannot be");
        }
        int pace = paceOf(clock);
        return isLate ? Table.lateBy(pace, mothers, daughters, 0) : Table.earlyBy(pace, mothers, daughters, 0);
    }

    public int fewest() {
        return findFewest();
    }

    public int bestSwap(boolean isFirst) {
        return runOfPair(findBestPair(), isFirst);
    }

    public int changed(int clock, int pace) throws IndexOutOfBoundsException, IllegalArgumentException {
        if (!isClock(clock)) {
            throw new IndexOutOfBoundsException("no such clock");
        }
        if (!isWithin(pace, LEAST_PACE, MOST_PACE)) {
            throw new IllegalArgumentException("no such pace");
        }
        int count = 0;
        for (int k = 0; k < runs.size(); k++) {
            Run run = runs.get(k);
            if (run.stands && run.clock == clock && run.wouldMissItselfBy(pace)) {
                count++;
            }
        }
        return count;
    }

    public int wider(int grain, int run) throws IndexOutOfBoundsException, IllegalStateException {
        if (!isGrain(grain) || !isRun(run)) {
            throw new IndexOutOfBoundsException("no such grain or run");
        }
        if (!runs.get(run).stands) {
            throw new IllegalStateException("the run is withdrawn");
        }
        Grain asked = grains.get(grain);
        int now = lateOf(asked, NONE, NONE) - earlyOf(asked, NONE, NONE);
        int then = lateOf(asked, NONE, run) - earlyOf(asked, NONE, run);
        return then - now;
    }

    public boolean isSound() {
        return allMotesAreThere() && noNarrowedSpanIsWider() && othersAgree() && printsThatStandAreBorne();
    }

    public long digest() {
        long sum = DIGEST_START;
        for (int what = 0; what <= LAST_OF_LAB; what++) {
            sum = sum * DIGEST_FACTOR + labFact(what);
        }
        sum = digestGrains(sum);
        sum = digestRuns(sum);
        sum = digestPrints(sum);
        sum = sum * DIGEST_FACTOR + findFewest();
        int pair = findBestPair();
        sum = sum * DIGEST_FACTOR + runOfPair(pair, true);
        sum = sum * DIGEST_FACTOR + runOfPair(pair, false);
        return sum * DIGEST_FACTOR + oneIf(isSound());
    }

    private long digestGrains(long start) {
        long sum = start;
        for (int k = 0; k < grains.size(); k++) {
            Grain grain = grains.get(k);
            for (int what = 0; what <= LAST_OF_GRAIN; what++) {
                sum = sum * DIGEST_FACTOR + grainFact(grain, what);
            }
            sum = sum * DIGEST_FACTOR + earlyOf(grain, NONE, NONE);
            sum = sum * DIGEST_FACTOR + lateOf(grain, NONE, NONE);
            sum = sum * DIGEST_FACTOR + narrowedEarly(grain);
            sum = sum * DIGEST_FACTOR + narrowedLate(grain);
        }
        return sum;
    }

    private long digestRuns(long start) {
        long sum = start;
        for (int k = 0; k < runs.size(); k++) {
            for (int what = 0; what <= LAST_OF_RUN; what++) {
                sum = sum * DIGEST_FACTOR + runFact(runs.get(k), what);
            }
        }
        return sum;
    }

    private long digestPrints(long start) {
        long sum = start;
        for (int k = 0; k < prints.size(); k++) {
            // The run of a print is not part of the sum, so the first fact is left out.
            for (int what = 1; what <= LAST_OF_PRINT; what++) {
                sum = sum * DIGEST_FACTOR + printFact(prints.get(k), what);
            }
        }
        return sum;
    }

    // ---- what there is

    private static boolean isWithin(int number, int least, int most) {
        return number >= least && number <= most;
    }

    private static int oneIf(boolean is) {
        return is ? 1 : 0;
    }

    private static boolean isClock(int clock) {
        return clock == 0 || clock == 1;
    }

    private boolean isGrain(int grain) {
        return grain >= 0 && grain < grains.size();
    }

    private boolean isRun(int run) {
        return run >= 0 && run < runs.size();
    }

    private boolean isPrint(int print) {
        return print >= 0 && print < prints.size();
    }

    private int paceOf(int clock) {
        return clock == 0 ? firstPace : secondPace;
    }

    // ---- facts by number

    private int grainFact(Grain grain, int what) {
        switch (what) {
            case 0:
                return grain.first.mothers;
            case 1:
                return grain.first.daughters;
            case 2:
                return grain.first.gone;
            case 3:
                return grain.second.mothers;
            case 4:
                return grain.second.daughters;
            case 5:
                return grain.second.gone;
            case 6:
                return yearsEver - grain.bornIn;
            case 7:
                return grain.bed;
            case 8:
                return oneIf(grain.isTouched);
            default:
                return countRunsLabelled(grain);
        }
    }

    private int runFact(Run run, int what) {
        switch (what) {
            case 0:
                return run.label.number;
            case 1:
                return run.clock;
            case 2:
                return run.mothers;
            case 3:
                return run.daughters;
            case 4:
                return run.slip;
            case 5:
                return run.earlyIn(yearsEver);
            case 6:
                return run.lateIn(yearsEver);
            default:
                return oneIf(run.stands);
        }
    }

    private int printFact(Print print, int what) {
        switch (what) {
            case 0:
                return print.run.number;
            case 1:
                return print.pace;
            case 2:
                return print.on == null ? NONE : print.on.number;
            case 3:
                return oneIf(allStandFrom(print));
            default:
                return countPrintsBelow(print);
        }
    }

    private int labFact(int what) {
        switch (what) {
            case 0:
                return yearsEver;
            case 1:
                return grains.size();
            case 2:
                return countRunsThatStand();
            case 3:
                return countPrintsThatStand();
            case 4:
                return slip;
            case 5:
                return countDoubles();
            case 6:
                return countQuarrels();
            case 7:
                return Integer.bitCount(findFewest());
            case 8:
                return firstPace;
            case 9:
                return secondPace;
            default:
                return countMotesEver();
        }
    }

    private int countRunsThatStand() {
        int count = 0;
        for (int k = 0; k < runs.size(); k++) {
            count += oneIf(runs.get(k).stands);
        }
        return count;
    }

    private int countRunsLabelled(Grain label) {
        int count = 0;
        for (int k = 0; k < runs.size(); k++) {
            Run run = runs.get(k);
            count += oneIf(run.stands && run.label == label);
        }
        return count;
    }

    private int countPrintsThatStand() {
        int count = 0;
        for (int k = 0; k < prints.size(); k++) {
            count += oneIf(allStandFrom(prints.get(k)));
        }
        return count;
    }

    private int countQuarrels() {
        int count = 0;
        for (int k = 0; k < grains.size(); k++) {
            Grain grain = grains.get(k);
            count += oneIf(earlyOf(grain, NONE, NONE) > lateOf(grain, NONE, NONE));
        }
        return count;
    }

    private int countMotesEver() {
        int count = 0;
        for (int k = 0; k < grains.size(); k++) {
            Grain grain = grains.get(k);
            count += grain.first.born + grain.second.born;
        }
        return count;
    }

    // ---- spans of grains

    /** The greatest early by a clock (NONE: by both), as if the run of the number without was not there. */
    private int earlyOf(Grain grain, int clock, int without) {
        int early = 0;
        for (int k = 0; k < runs.size(); k++) {
            Run run = runs.get(k);
            if (run.number != without && run.tellsOf(grain, clock)) {
                early = Math.max(early, run.earlyIn(yearsEver));
            }
        }
        return early;
    }

    /** The smallest late by a clock (NONE: by both), as if the run of the number without was not there. */
    private int lateOf(Grain grain, int clock, int without) {
        int late = MOST_YEARS;
        for (int k = 0; k < runs.size(); k++) {
            Run run = runs.get(k);
            if (run.number != without && run.tellsOf(grain, clock)) {
                late = Math.min(late, run.lateIn(yearsEver));
            }
        }
        return late;
    }

    private int narrowedEarly(Grain grain) {
        int early = earlyOf(grain, NONE, NONE);
        for (int k = 0; k < grains.size(); k++) {
            Grain other = grains.get(k);
            if (other.bed > grain.bed) {
                early = Math.max(early, earlyOf(other, NONE, NONE));
            }
        }
        return early;
    }

    private int narrowedLate(Grain grain) {
        int late = lateOf(grain, NONE, NONE);
        for (int k = 0; k < grains.size(); k++) {
            Grain other = grains.get(k);
            if (other.bed < grain.bed) {
                late = Math.min(late, lateOf(other, NONE, NONE));
            }
        }
        return late;
    }

    // ---- the fewest

    private int allGrains() {
        return (1 << grains.size()) - 1;
    }

    private int findFewest() {
        markClashes();
        int all = allGrains();
        int fewest = all;
        // The set of all grains is not tried: without it nothing is left that could clash.
        for (int set = 0; set < all; set++) {
            if (Integer.bitCount(set) < Integer.bitCount(fewest) && agree(all & ~set)) {
                fewest = set;
            }
        }
        return fewest;
    }

    /** Whether the grains of a set agree, by the clashes that were marked last. */
    private boolean agree(int set) {
        for (int k = 0; k < grains.size(); k++) {
            Grain grain = grains.get(k);
            if ((set & grain.bit()) != 0 && (set & grain.clashes) != 0) {
                return false;
            }
        }
        return true;
    }

    /** Tried sets are many, so what clashes is worked out once before them. */
    private void markClashes() {
        for (int k = 0; k < grains.size(); k++) {
            Grain grain = grains.get(k);
            grain.early = earlyOf(grain, NONE, NONE);
            grain.late = lateOf(grain, NONE, NONE);
            grain.clashes = grain.early > grain.late ? grain.bit() : 0;
        }
        for (int k = 0; k < grains.size(); k++) {
            for (int other = 0; other < grains.size(); other++) {
                markIfOver(grains.get(k), grains.get(other));
            }
        }
    }

    private static void markIfOver(Grain upper, Grain lower) {
        if (upper.bed > lower.bed && upper.early > lower.late) {
            // One of both is enough: where it is missing from a set, the two do not stand in it together.
            upper.clashes |= lower.bit();
        }
    }

    // ---- doubles

    private int countDoubles() {
        markRuns();
        int ends = 0;
        for (int k = 0; k < runs.size(); k++) {
            ends += runs.get(k).countMissed();
        }
        // Each pair was counted at both of its ends.
        return ends / 2;
    }

    /** Notes of each run that stands which others its span does not meet, and of each label its runs. */
    private void markRuns() {
        for (int k = 0; k < grains.size(); k++) {
            grains.get(k).runsThatStand = 0;
        }
        for (int k = 0; k < runs.size(); k++) {
            Run run = runs.get(k);
            run.missed = 0;
            if (run.stands) {
                run.label.runsThatStand |= run.bit();
            }
        }
        for (int k = 0; k < runs.size(); k++) {
            for (int other = 0; other < k; other++) {
                markIfMissed(runs.get(k), runs.get(other));
            }
        }
    }

    private void markIfMissed(Run one, Run other) {
        if (one.stands && other.stands && one.misses(other, yearsEver)) {
            one.missed |= other.bit();
            other.missed |= one.bit();
        }
    }

    /** The best swap as one number, first run * MOST_RUNS + second run; NONE without one. */
    private int findBestPair() {
        markRuns();
        int mostLess = 0;
        int best = NONE;
        for (int one = 0; one < runs.size(); one++) {
            for (int other = one + 1; other < runs.size(); other++) {
                int less = doublesLessBySwap(runs.get(one), runs.get(other));
                if (less > mostLess) {
                    mostLess = less;
                    best = one * MOST_RUNS + other;
                }
            }
        }
        return best;
    }

    /** How many doubles less there would be, by what markRuns noted last. */
    private static int doublesLessBySwap(Run one, Run other) {
        if (!one.stands || !other.stands || one.label == other.label) {
            return 0;
        }
        // Each comes to the runs of the other's label without the other one, which leaves it.
        int oneThen = one.missed & other.label.runsThatStand & ~other.bit();
        int otherThen = other.missed & one.label.runsThatStand & ~one.bit();
        int now = one.countMissed() + other.countMissed();
        return now - Integer.bitCount(oneThen) - Integer.bitCount(otherThen);
    }

    private static int runOfPair(int pair, boolean isFirst) {
        if (pair < 0) {
            return NONE;
        }
        return isFirst ? pair / MOST_RUNS : pair % MOST_RUNS;
    }

    // ---- prints

    /** Whether the print and all below it are borne out; true for none. */
    private boolean allStandFrom(Print print) {
        for (Print at = print; at != null; at = at.on) {
            if (!at.run.stands || at.pace != paceOf(at.run.clock)) {
                return false;
            }
        }
        return true;
    }

    private static int countPrintsBelow(Print print) {
        int count = 0;
        for (Print at = print.on; at != null; at = at.on) {
            count++;
        }
        return count;
    }

    // ---- whether all is sound

    private boolean allMotesAreThere() {
        for (int k = 0; k < grains.size(); k++) {
            Grain grain = grains.get(k);
            if (!grain.first.areAllThere() || !grain.second.areAllThere()) {
                return false;
            }
        }
        return true;
    }

    private boolean noNarrowedSpanIsWider() {
        for (int k = 0; k < grains.size(); k++) {
            Grain grain = grains.get(k);
            int width = lateOf(grain, NONE, NONE) - earlyOf(grain, NONE, NONE);
            if (narrowedLate(grain) - narrowedEarly(grain) > width) {
                return false;
            }
        }
        return true;
    }

    private boolean othersAgree() {
        int fewest = findFewest();
        return agree(allGrains() & ~fewest);
    }

    private boolean printsThatStandAreBorne() {
        for (int k = 0; k < prints.size(); k++) {
            Print print = prints.get(k);
            if (allStandFrom(print) && (!print.run.stands || !allStandFrom(print.on))) {
                return false;
            }
        }
        return true;
    }

    /** How many mothers are left behind how many years. */
    private static final class Table {
        private Table() {
        }

        static int turnedInYear(int pace, int mothers) {
            return pace > 0 ? mothers / pace : 0;
        }

        static int leftBehind(int pace, int mothers, int years) {
            int left = mothers;
            for (int year = 0; year < years; year++) {
                int turned = turnedInYear(pace, left);
                if (turned == 0) {
                    // With fewer mothers than the pace none turns any more.
                    return left;
                }
                left -= turned;
            }
            return left;
        }

        static int earlyBy(int pace, int mothers, int daughters, int slip) {
            int enough = mothers + slip;
            int left = enough + Math.max(0, daughters - slip);
            for (int years = 0; years < MOST_YEARS; years++) {
                if (left <= enough) {
                    return years;
                }
                int turned = turnedInYear(pace, left);
                if (turned == 0) {
                    return MOST_YEARS;
                }
                left -= turned;
            }
            return MOST_YEARS;
        }

        static int lateBy(int pace, int mothers, int daughters, int slip) {
            int enough = Math.max(0, mothers - slip);
            int left = enough + daughters + slip;
            for (int years = 0; years < MOST_YEARS; years++) {
                int turned = turnedInYear(pace, left);
                if (turned == 0) {
                    return MOST_YEARS;
                }
                left -= turned;
                if (left < enough) {
                    return years;
                }
            }
            return MOST_YEARS;
        }
    }

    /** What a grain has of one clock. */
    private static final class Motes {
        final int born;
        int mothers;
        int daughters;
        int gone;

        Motes(int born) {
            this.born = born;
            mothers = born;
            daughters = 0;
            gone = 0;
        }

        void turnFor(int years, int pace) {
            int left = Table.leftBehind(pace, mothers, years);
            daughters += mothers - left;
            mothers = left;
        }

        int loseDaughters(int share) {
            int lost = daughters * share / WHOLE_SHARE;
            daughters -= lost;
            gone += lost;
            return lost;
        }

        int loseMothers(int share) {
            int lost = mothers * share / WHOLE_SHARE;
            mothers -= lost;
            gone += lost;
            return lost;
        }

        boolean areAllThere() {
            return mothers + daughters + gone == born;
        }
    }

    private static final class Grain {
        final int number;
        final Motes first;
        final Motes second;
        final int bed;
        final int bornIn;
        boolean isTouched;
        // What markClashes noted.
        int early;
        int late;
        int clashes;
        // What markRuns noted.
        int runsThatStand;

        Grain(int number, Motes first, Motes second, int bed, int bornIn) {
            this.number = number;
            this.first = first;
            this.second = second;
            this.bed = bed;
            this.bornIn = bornIn;
        }

        Motes of(int clock) {
            return clock == 0 ? first : second;
        }

        int bit() {
            return 1 << number;
        }
    }

    private static final class Run {
        final int number;
        final int clock;
        final int mothers;
        final int daughters;
        final int slip;
        final int madeIn;
        Grain label;
        boolean stands;
        // The span in the year of the run. The table changes with the pace alone, so it is kept till then.
        int early;
        int late;
        // What markRuns noted.
        int missed;

        Run(int number, Grain label, int clock, int mothers, int daughters, int slip, int madeIn) {
            this.number = number;
            this.label = label;
            this.clock = clock;
            this.mothers = mothers;
            this.daughters = daughters;
            this.slip = slip;
            this.madeIn = madeIn;
            stands = true;
        }

        void dateBy(int pace) {
            early = Table.earlyBy(pace, mothers, daughters, slip);
            late = Table.lateBy(pace, mothers, daughters, slip);
        }

        int earlyIn(int year) {
            return early + year - madeIn;
        }

        int lateIn(int year) {
            return late + year - madeIn;
        }

        boolean tellsOf(Grain grain, int byClock) {
            return stands && label == grain && (byClock == NONE || clock == byClock);
        }

        boolean misses(Run other, int year) {
            return earlyIn(year) > other.lateIn(year) || other.earlyIn(year) > lateIn(year);
        }

        boolean wouldMissItselfBy(int pace) {
            // The years since the run move both spans alike, so they need not be added.
            int earlyThen = Table.earlyBy(pace, mothers, daughters, slip);
            int lateThen = Table.lateBy(pace, mothers, daughters, slip);
            return early > lateThen || earlyThen > late;
        }

        int countMissed() {
            return Integer.bitCount(missed & label.runsThatStand);
        }

        int bit() {
            return 1 << number;
        }
    }

    private static final class Print {
        final int number;
        final Run run;
        final int pace;
        // The print below; null without one. It was there before, so the chain of these ends.
        final Print on;

        Print(int number, Run run, int pace, Print on) {
            this.number = number;
            this.run = run;
            this.pace = pace;
            this.on = on;
        }
    }
}
