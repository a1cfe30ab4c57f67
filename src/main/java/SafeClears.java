import java.util.Arrays;

/**
 * Lights of a junction. What each call does and answers is told by the numbered promises of the
 * document; the words that it writes in capitals bear the same names here.
 */
public final class SafeClears {
    public static final int NONE = -1, BAD = -2, STATE = -3, FULL = -4;
    public static final long NO = Long.MIN_VALUE;

    /** Answered, and held in rows, for "none" and "never". */
    private static final int NEVER = -5;
    private static final int NOTHING = -11, CAST = -12, PLACE = -13, SIZE = -14;

    private static final int SIGNALS = 8, CELLS = 64, LONGEST_WAY = 8, PHASES = 6;
    private static final int NODES = 5, TAPES = 6, LONGEST_TAPE = 60, LONGEST_TEXT = 100, CLAUSES = 4;
    private static final int LONGEST_QUEUE = 99, MOST_SECONDS = 99, GAPS = 9;
    private static final int GREENS_KEPT = 24, GREENS_TOLD = 8, NOTES = 5, PLAN_ROWS = 8;
    private static final int LAST_FACT = 18;
    private static final int SECONDS_IN_ALL = 12000;

    private static final int CARS = 0, WALK = 1, TRAM = 2, BIKES = 3;
    private static final int[] AMBER = {3, 2, 4, 2};
    private static final int[] PACE = {1, 3, 2, 1};
    /** By the sort for which a signal is taken: the kinds (bits) that are of it. */
    private static final int[] KINDS_OF_SORT = {15, 13, 5, 1, 2};

    /** A signal's rules, as tell() numbers them. */
    private static final int LEAST = 0, MOST = 1, GAP = 2, RATE = 3, RULES = 4;
    private static final int RED_LIGHT = 0, AMBER_LIGHT = 1, GREEN_LIGHT = 2;

    /** What a row of the plan tells. */
    private static final int PLAN_PASS = 0, PLAN_EMERGENCY = 1, PLAN_OVER = 2, PLAN_EMPTY = 3;

    private static final int BYTES = 0, SHORTS = 1, INTS = 2, LONGS = 3, BOOLEANS = 4;

    private final World now;
    private final World imaged;
    /** All that is only asked lets its seconds pass here. */
    private final Control thought;
    private final Control control;
    private final Junction junction;
    private final Signals signals;
    private final Phases phases;
    private final Wave street;
    private final Reader text;
    private final Tape[] tapes;
    private boolean hasImage;
    private int counted;

    public SafeClears() {
        now = new World();
        imaged = new World();
        thought = new Control();
        control = now.control;
        junction = control.junction;
        signals = control.signals;
        phases = control.phases;
        street = now.street;
        text = new Reader();
        tapes = new Tape[TAPES];
        for (int t = 0; t < TAPES; t++) {
            tapes[t] = new Tape();
        }
    }

    // ---- what is set up

    public int signal(int kind, int cell) {
        if (!within(kind, CARS, BIKES) || !within(cell, 0, CELLS - 1)) {
            return BAD;
        }
        if (control.started) {
            return STATE;
        }
        if (junction.number >= SIGNALS) {
            return FULL;
        }
        return junction.addSignal(kind, cell);
    }

    public int goes(int signal, int cell) {
        if (!isSignal(signal)) {
            return NONE;
        }
        if (!within(cell, 0, CELLS - 1) || junction.placeOf(signal, cell) != NEVER) {
            return BAD;
        }
        if (phases.number > 0) {
            return STATE;
        }
        if (junction.lengths[signal] >= LONGEST_WAY) {
            return FULL;
        }
        return junction.addCell(signal, cell);
    }

    public int tell(int signal, int what, int v) {
        if (!isSignal(signal) || !within(what, LEAST, RATE)) {
            return NONE;
        }
        if (!within(v, signals.lowest(signal, what), signals.highest(signal, what))) {
            return BAD;
        }
        int was = signals.rule(signal, what);
        signals.rules[signal * RULES + what] = v;
        return was;
    }

    public int feed(int sign) {
        if (!within(sign, 0, 127)) {
            return BAD;
        }
        if (text.length >= LONGEST_TEXT) {
            return FULL;
        }
        return text.append(sign);
    }

    public int read() {
        boolean fits = !control.started && text.parse();
        text.length = 0;
        if (control.started) {
            return STATE;
        }
        if (!fits) {
            return -10 - text.fault;
        }
        if (junction.number + text.clauses > SIGNALS) {
            return FULL;
        }
        for (int c = 0; c < text.clauses; c++) {
            bringClause(c);
        }
        return text.clauses;
    }

    private void bringClause(int c) {
        int signal = junction.addSignal(text.kinds[c], text.ways[c * LONGEST_WAY]);
        for (int i = 1; i < text.lengths[c]; i++) {
            junction.addCell(signal, text.ways[c * LONGEST_WAY + i]);
        }
        for (int what = 0; what < RULES; what++) {
            signals.rules[signal * RULES + what] = text.numbers[c * RULES + what];
        }
    }

    public int safety(int v) {
        if (!within(v, 0, 5)) {
            return BAD;
        }
        if (control.started) {
            return STATE;
        }
        int was = junction.safety;
        junction.safety = v;
        return was;
    }

    public int phase(int set, int force) {
        if (!within(set, 1, (1 << junction.number) - 1) || !within(force, 0, 239)) {
            return BAD;
        }
        if (control.started || junction.twoMeetIn(set)) {
            return STATE;
        }
        if (phases.number >= PHASES) {
            return FULL;
        }
        return phases.add(set, force);
    }

    public int start() {
        if (control.started || phases.number == 0) {
            return STATE;
        }
        control.begin();
        return phases.number;
    }

    // ---- what goes on

    public int cycle(int cycle, int offset, int split) {
        boolean none = cycle == 0;
        if (!none && (!within(cycle, 20, 240) || !within(offset, 0, cycle - 1) || !within(split, 1, cycle))) {
            return BAD;
        }
        int was = control.cycle;
        control.cycle = cycle;
        control.offset = none ? 0 : offset;
        control.split = none ? 0 : split;
        return was;
    }

    public int come(int signal, int n) {
        if (!isSignal(signal)) {
            return NONE;
        }
        if (!within(n, 1, 20)) {
            return BAD;
        }
        control.lost += signals.join(signal, n);
        return signals.queue[signal];
    }

    public int seed(int v) {
        int was = control.seed;
        control.seed = v;
        return was;
    }

    public int emergency(int signal) {
        if (!isSignal(signal)) {
            return NONE;
        }
        return control.declare(signal) ? phases.firstWith(signal) : STATE;
    }

    public int over() {
        int was = control.emergency;
        if (was == NEVER) {
            return STATE;
        }
        control.emergency = NEVER;
        return was;
    }

    public int pass(int n) {
        int refusal = refusalOf(n, MOST_SECONDS, 1);
        if (refusal != 0) {
            return refusal;
        }
        int before = control.served;
        control.passSeconds(n);
        return control.served - before;
    }

    // ---- what is there

    public int told(int what) {
        return within(what, 0, LAST_FACT) ? control.fact(what) : NONE;
    }

    public int of(int signal, int what) {
        return isSignal(signal) ? control.factOf(signal, what) : NONE;
    }

    public int way(int signal, int k) {
        if (!isSignal(signal)) {
            return NONE;
        }
        return within(k, 0, junction.lengths[signal] - 1) ? junction.cellAt(signal, k) : BAD;
    }

    public int clear(int a, int b) {
        if (!isSignal(a) || !isSignal(b)) {
            return NONE;
        }
        return junction.meet(a, b) ? junction.clearOf(a, b) : NEVER;
    }

    public int narrow(int a, int b) {
        if (!isSignal(a) || !isSignal(b)) {
            return NONE;
        }
        return junction.narrows[a * SIGNALS + b];
    }

    public int table(int what) {
        switch (what) {
            case 0:
                return junction.meetings();
            case 1:
                return junction.greatestClear();
            case 2:
                return junction.allClears();
            case 3:
                return (phases.number + 1) * (junction.greatestClear() + greatestMost() + 1);
            default:
                return NONE;
        }
    }

    private int greatestMost() {
        int greatest = 0;
        for (int s = 0; s < junction.number; s++) {
            greatest = Math.max(greatest, signals.rule(s, MOST));
        }
        return greatest;
    }

    public int phaseOf(int phase, int what) {
        if (!within(phase, 0, phases.number - 1)) {
            return NONE;
        }
        switch (what) {
            case 0:
                return phases.sets[phase];
            case 1:
                return phases.forces[phase];
            case 2:
                return phases.comings[phase];
            case 3:
                return isIn(control.calledPhases(), phase) ? 1 : 0;
            default:
                return NONE;
        }
    }

    public int taken(int signal, int k) {
        if (!isSignal(signal)) {
            return NONE;
        }
        if (!within(k, 0, KINDS_OF_SORT.length - 1)) {
            return BAD;
        }
        int kind = junction.kinds[signal];
        return isIn(KINDS_OF_SORT[k], kind) ? kind : CAST;
    }

    // ---- the record, proofs

    public int recorded(int i, int what) {
        if (!within(what, 0, 2)) {
            return NONE;
        }
        Rows record = control.record;
        return within(i, 0, record.number - 1) ? record.at(record.number - 1 - i, what) : BAD;
    }

    public int greens(int signal, int how) {
        if (!isSignal(signal)) {
            return NONE;
        }
        switch (how) {
            case 0:
                return control.recordedGreens(signal);
            case 1:
                return control.recordedTime(signal);
            case 2:
                return control.shortestGreen(signal);
            case 3:
                return control.longestGreen(signal);
            default:
                return NONE;
        }
    }

    public int could(int cell, int second, int by) {
        if (!within(by, 0, 1)) {
            return NONE;
        }
        if (!within(cell, 0, CELLS - 1) || !within(second, 0, 9999)) {
            return BAD;
        }
        return now.takersOf(cell, second, by);
    }

    public int crowded(int second, int by) {
        if (!within(by, 0, 1)) {
            return NONE;
        }
        if (!within(second, 0, 9999)) {
            return BAD;
        }
        for (int cell = 0; cell < CELLS; cell++) {
            if (Integer.bitCount(now.takersOf(cell, second, by)) > 1) {
                return cell;
            }
        }
        return NEVER;
    }

    public int green(int signal, int from, int to) {
        Rows rows = now.greensTold;
        if (signal == -1) {
            rows.number = 0;
            return 0;
        }
        if (!isSignal(signal)) {
            return NONE;
        }
        if (!within(from, 0, 9998) || !within(to, from + 1, 9999)) {
            return BAD;
        }
        return rows.add(signal, from, to) ? rows.number : FULL;
    }

    public int proved() {
        return now.firstUnproved();
    }

    // ---- waves

    public int wave(int v) {
        if (!within(v, 20, 60)) {
            return BAD;
        }
        int was = street.round;
        street.round = v;
        street.number = 0;
        return was;
    }

    public int node(int offset, int wide, int travel) {
        if (!street.allows(Wave.OFFSET, offset) || !street.allows(Wave.LONG, wide)
                || !street.allows(Wave.TRAVEL, travel)) {
            return BAD;
        }
        if (street.number >= NODES) {
            return FULL;
        }
        return street.add(offset, wide, travel);
    }

    public int change(int node, int what, int v) {
        if (!within(node, 0, street.number - 1) || !within(what, Wave.OFFSET, Wave.TRAVEL)) {
            return NONE;
        }
        if (!street.allows(what, v)) {
            return BAD;
        }
        int was = street.at(node, what);
        street.put(node, what, v);
        return was;
    }

    public int band(int way) {
        switch (way) {
            case 0:
                return street.bandOn();
            case 1:
                return street.bandBack();
            case 2:
                return street.bothBands();
            default:
                return NONE;
        }
    }

    public int nodeBest(int node, int what) {
        if (!within(node, 0, street.number - 1) || !within(what, 0, 1)) {
            return NONE;
        }
        if (!takeSeconds(10)) {
            return FULL;
        }
        int offset = street.bestOffset(node);
        return what == 0 ? offset : street.bandsWith(node, offset);
    }

    public int tune() {
        if (!takeSeconds(200)) {
            return FULL;
        }
        street.tuneAll();
        return street.bothBands();
    }

    // ---- what would be

    public int would(int n, int what) {
        if (!within(what, 0, LAST_FACT)) {
            return NONE;
        }
        int refusal = refusalOf(n, MOST_SECONDS, 1);
        if (refusal != 0) {
            return refusal;
        }
        thought.copyFrom(control);
        thought.passSeconds(n);
        return thought.fact(what);
    }

    public int turns(int signal, int n) {
        if (!isSignal(signal)) {
            return NONE;
        }
        int refusal = refusalOf(n, MOST_SECONDS, 1);
        if (refusal != 0) {
            return refusal;
        }
        thought.copyFrom(control);
        for (int k = 0; k < n; k++) {
            thought.passSeconds(1);
            if (thought.signals.isGreen(signal)) {
                return thought.second - 1;
            }
        }
        return NEVER;
    }

    public int best(int n, int what) {
        if (!within(what, 0, 1)) {
            return NONE;
        }
        int refusal = refusalOf(n, 60, GAPS);
        if (refusal != 0) {
            return refusal;
        }
        int best = 1;
        int least = waitedWithGap(1, n);
        for (int gap = 2; gap <= GAPS; gap++) {
            int waited = waitedWithGap(gap, n);
            if (waited < least) {
                best = gap;
                least = waited;
            }
        }
        return what == 0 ? best : least;
    }

    private int waitedWithGap(int gap, int n) {
        thought.copyFrom(control);
        thought.signals.setGaps(gap);
        thought.passSeconds(n);
        return thought.waited;
    }

    public int note(int second, int set) {
        Rows notes = now.notes;
        if (second == -1) {
            notes.number = 0;
            return 0;
        }
        if (!within(second, 0, 99999) || !within(set, 0, 255)) {
            return BAD;
        }
        return notes.add(second, set, 0) ? notes.number : FULL;
    }

    public int fits(int what) {
        if (!within(what, 0, 1)) {
            return NONE;
        }
        int refusal = refusalOf(60, 60, GAPS);
        if (refusal != 0) {
            return refusal;
        }
        int many = 0;
        int least = NEVER;
        for (int gap = GAPS; gap >= 1; gap--) {
            if (notesHoldWithGap(gap)) {
                many++;
                least = gap;
            }
        }
        return what == 0 ? many : least;
    }

    private boolean notesHoldWithGap(int gap) {
        thought.copyFrom(control);
        thought.signals.setGaps(gap);
        int held = 0;
        for (int k = 0; k < 60; k++) {
            int second = thought.second;
            thought.passSeconds(1);
            held += now.notesThatHold(second, thought.signals.green);
        }
        return held == now.notes.number;
    }

    public int day(int seed, int n) {
        int refusal = refusalOf(n, MOST_SECONDS, 1);
        return refusal != 0 ? refusal : waitedOnDay(seed, n);
    }

    private int waitedOnDay(int seed, int n) {
        thought.copyFrom(control);
        thought.seed = seed;
        thought.passSeconds(n);
        return thought.waited - control.waited;
    }

    public long chance(int seed, int n, int m, int k, int part) {
        if (!within(m, 1, 4) || !within(k, 0, 99999) || !within(part, 0, 1)) {
            return NO;
        }
        if (refusalOf(n, MOST_SECONDS, m) != 0) {
            return NO;
        }
        int good = 0;
        for (int j = 0; j < m; j++) {
            if (waitedOnDay(seed + j, n) <= k) {
                good++;
            }
        }
        return partOfFraction(good, m, part);
    }

    public long mean(int part) {
        if (!within(part, 0, 1) || control.served == 0) {
            return NO;
        }
        return partOfFraction(control.waited, control.served, part);
    }

    // ---- plans, judging, the image, tapes

    public int plan(int what, int n) {
        Rows plan = now.plan;
        if (what == -1) {
            plan.number = 0;
            return 0;
        }
        if (!within(what, PLAN_PASS, PLAN_EMPTY)) {
            return NONE;
        }
        int most = what == PLAN_PASS ? MOST_SECONDS : SIGNALS - 1;
        if (what != PLAN_OVER && !within(n, 0, most)) {
            return BAD;
        }
        return plan.add(what, n, 0) ? plan.number : FULL;
    }

    public int ends(int what) {
        if (!within(what, 0, 1)) {
            return NONE;
        }
        int refusal = refusalOf(now.plannedSeconds(), PLAN_ROWS * MOST_SECONDS, 1);
        if (refusal != 0) {
            return refusal;
        }
        thought.copyFrom(control);
        for (int r = 0; r < now.plan.number; r++) {
            thought.obey(now.plan.at(r, 0), now.plan.at(r, 1));
        }
        return what == 0 ? thought.waited : thought.served;
    }

    public int judge(int tape, int i) {
        if (!within(tape, 0, TAPES - 1)) {
            return NONE;
        }
        Tape row = tapes[tape];
        if (row.sort != NEVER && row.sort != BYTES) {
            return CAST;
        }
        for (int s = 0; s < junction.number; s++) {
            // i + s can't wrap around: by 0 it was found that i is a place
            if (!row.hasPlace(i + s)) {
                return 100 + s;
            }
            if (row.items[i + s] != control.lightOf(s)) {
                return s;
            }
        }
        return NEVER;
    }

    public int image() {
        imaged.copyFrom(now);
        hasImage = true;
        return control.second;
    }

    public int undo() {
        if (!hasImage) {
            return STATE;
        }
        now.copyFrom(imaged);
        return control.second;
    }

    public int count(int what) {
        switch (what) {
            case 0:
                return text.length;
            case 1:
                return now.notes.number;
            case 2:
                return now.plan.number;
            case 3:
                return now.greensTold.number;
            case 4:
                return street.number;
            case 5:
                return counted;
            case 6:
                return control.record.number;
            case 7:
                return street.round;
            default:
                return BAD;
        }
    }

    public int tape(int tape, int sort, int n) {
        if (!within(tape, 0, TAPES - 1)) {
            return NONE;
        }
        if (sort == -1) {
            tapes[tape].holdNothing();
            return 1;
        }
        if (!within(sort, BYTES, BOOLEANS) || n > LONGEST_TAPE) {
            return BAD;
        }
        if (n < 0) {
            return SIZE;
        }
        tapes[tape].hold(sort, n);
        return 1;
    }

    public int item(int tape, int i, long v) {
        if (!within(tape, 0, TAPES - 1)) {
            return NONE;
        }
        Tape row = tapes[tape];
        if (row.sort == NEVER) {
            return NOTHING;
        }
        if (!row.hasPlace(i)) {
            return PLACE;
        }
        row.items[i] = row.narrowed(v);
        return 1;
    }

    public long peek(int tape, int i) {
        if (!within(tape, 0, TAPES - 1) || !tapes[tape].hasPlace(i)) {
            return NO;
        }
        return tapes[tape].items[i];
    }

    public int shift(int tape, int i, int other, int j, int n) {
        if (!within(tape, 0, TAPES - 1) || !within(other, 0, TAPES - 1)) {
            return NONE;
        }
        Tape from = tapes[tape];
        Tape to = tapes[other];
        if (from.sort == NEVER || to.sort == NEVER) {
            return NOTHING;
        }
        if (from.sort != to.sort) {
            return CAST;
        }
        if (!from.hasPlaces(i, n) || !to.hasPlaces(j, n)) {
            return PLACE;
        }
        System.arraycopy(from.items, i, to.items, j, n);
        return n;
    }

    // ---- what several calls share

    private static boolean within(int v, int low, int high) {
        return low <= v && v <= high;
    }

    private static boolean isIn(int bits, int i) {
        return (bits >> i & 1) != 0;
    }

    private boolean isSignal(int signal) {
        return within(signal, 0, junction.number - 1);
    }

    /** 0 if n seconds may pass so many times, which are counted then; else what is answered. */
    private int refusalOf(int n, int most, int times) {
        if (!within(n, 0, most)) {
            return BAD;
        }
        if (!control.started) {
            return STATE;
        }
        return takeSeconds(n * times) ? 0 : FULL;
    }

    private boolean takeSeconds(int seconds) {
        if (counted + seconds > SECONDS_IN_ALL) {
            return false;
        }
        counted += seconds;
        return true;
    }

    private static long partOfFraction(int above, int below, int part) {
        int divisor = greatestDivisor(above, below);
        if (divisor == 0) {
            return NO;
        }
        return (part == 0 ? above : below) / divisor;
    }

    private static int greatestDivisor(int a, int b) {
        int greater = a;
        int less = b;
        // Euclid's steps for two ints are fewer than 64
        for (int k = 0; k < 64 && less != 0; k++) {
            int rest = greater % less;
            greater = less;
            less = rest;
        }
        return greater;
    }

    /** All that an image keeps. */
    private static final class World {
        final Control control = new Control();
        final Wave street = new Wave();
        /** Signal, from, to. */
        final Rows greensTold = new Rows(GREENS_TOLD);
        /** Second, set. */
        final Rows notes = new Rows(NOTES);
        /** What, n. */
        final Rows plan = new Rows(PLAN_ROWS);

        void copyFrom(World other) {
            control.copyFrom(other.control);
            street.copyFrom(other.street);
            greensTold.copyFrom(other.greensTold);
            notes.copyFrom(other.notes);
            plan.copyFrom(other.plan);
        }

        /** Signals (bits) that could take a cell: by 0 as it went, by 1 as greens were told. */
        int takersOf(int cell, int second, int by) {
            if (by == 0) {
                return takersByRows(control.record, cell, second) | control.takersNow(cell, second);
            }
            return takersByRows(greensTold, cell, second);
        }

        private int takersByRows(Rows rows, int cell, int second) {
            Junction junction = control.junction;
            int takers = 0;
            for (int r = 0; r < rows.number; r++) {
                int signal = rows.at(r, 0);
                int place = junction.placeOf(signal, cell);
                if (place != NEVER && second >= junction.reaches(signal, place, rows.at(r, 1))
                        && second < junction.leaves(signal, place, rows.at(r, 2))) {
                    takers |= 1 << signal;
                }
            }
            return takers;
        }

        int firstUnproved() {
            for (int r = 1; r < greensTold.number; r++) {
                for (int ahead = 0; ahead < r; ahead++) {
                    if (areTooNear(r, ahead)) {
                        return r;
                    }
                }
            }
            return NEVER;
        }

        private boolean areTooNear(int r, int q) {
            boolean meet = control.junction.meet(greensTold.at(r, 0), greensTold.at(q, 0));
            return meet && !isClearBehind(r, q) && !isClearBehind(q, r);
        }

        private boolean isClearBehind(int later, int earlier) {
            int clear = control.junction.clearOf(greensTold.at(earlier, 0), greensTold.at(later, 0));
            return greensTold.at(later, 1) - greensTold.at(earlier, 2) >= clear;
        }

        int notesThatHold(int second, int green) {
            int many = 0;
            for (int r = 0; r < notes.number; r++) {
                if (notes.at(r, 0) == second && notes.at(r, 1) == green) {
                    many++;
                }
            }
            return many;
        }

        int plannedSeconds() {
            int seconds = 0;
            for (int r = 0; r < plan.number; r++) {
                if (plan.at(r, 0) == PLAN_PASS) {
                    seconds += plan.at(r, 1);
                }
            }
            return seconds;
        }
    }

    /** The controller: all of the document's terms 1 and 2. */
    private static final class Control {
        final Junction junction = new Junction();
        final Signals signals = new Signals();
        final Phases phases = new Phases();
        /** The greens that were ended, the latest last: signal, began, end. */
        final Rows record = new Rows(GREENS_KEPT);
        boolean started;
        int second;
        int current = NEVER;
        int cut = NEVER;
        int emergency = NEVER;
        int waited;
        int served;
        int lost;
        int seed = 1;
        int cycle;
        int offset;
        int split;

        void copyFrom(Control other) {
            junction.copyFrom(other.junction);
            signals.copyFrom(other.signals);
            phases.copyFrom(other.phases);
            record.copyFrom(other.record);
            started = other.started;
            second = other.second;
            current = other.current;
            cut = other.cut;
            emergency = other.emergency;
            waited = other.waited;
            served = other.served;
            lost = other.lost;
            seed = other.seed;
            cycle = other.cycle;
            offset = other.offset;
            split = other.split;
        }

        void begin() {
            started = true;
            comeOn(0);
        }

        private void comeOn(int phase) {
            current = phase;
            phases.comings[phase]++;
        }

        /** Whether a signal could be made the emergency. */
        boolean declare(int signal) {
            if (!started || emergency != NEVER || phases.firstWith(signal) == NEVER) {
                return false;
            }
            emergency = signal;
            return true;
        }

        void obey(int what, int n) {
            switch (what) {
                case PLAN_PASS:
                    passSeconds(n);
                    break;
                case PLAN_EMERGENCY:
                    declare(n);
                    break;
                case PLAN_OVER:
                    emergency = NEVER;
                    break;
                default:
                    signals.queue[n] = 0;
                    break;
            }
        }

        void passSeconds(int n) {
            if (!started) {
                return;
            }
            for (int k = 0; k < n; k++) {
                letCome();
                if (emergency != NEVER) {
                    changeForEmergency();
                } else {
                    changeByCalls();
                }
                turnGreen();
                letGo();
                waited += signals.allQueues();
                second++;
            }
        }

        private void letCome() {
            for (int s = 0; s < junction.number; s++) {
                int rate = signals.rule(s, RATE);
                if (rate > 0 && drawBelow60() < rate) {
                    lost += signals.join(s, 1);
                }
                if (signals.queue[s] > 0) {
                    signals.seen[s] = second;
                }
            }
        }

        private int drawBelow60() {
            seed = seed * 1103515245 + 12345;
            return (seed >>> 9) % 60;
        }

        private void changeForEmergency() {
            if (isIn(phases.sets[current], emergency) || isOneTooFreshToCut()) {
                return;
            }
            int next = phases.firstWith(emergency);
            if (next == NEVER) {
                return;
            }
            if (cut == NEVER) {
                cut = current;
            }
            changeTo(next);
        }

        private boolean isOneTooFreshToCut() {
            for (int s = 0; s < junction.number; s++) {
                int halfLeast = (signals.rule(s, LEAST) + 1) / 2;
                if (signals.isGreen(s) && second - signals.began[s] < halfLeast) {
                    return true;
                }
            }
            return false;
        }

        private void changeByCalls() {
            if (isHeld() || !areAllGreenForLeast()) {
                return;
            }
            int called = calledPhases();
            if (called != 0 && (isForced() || isOneGreenForMost() || areAllGapsOver())) {
                int next = nextOf(called);
                cut = NEVER;
                changeTo(next);
            }
        }

        private int nextOf(int called) {
            if (cut != NEVER && isIn(called, cut)) {
                return cut;
            }
            for (int phase = current + 1; phase < phases.number; phase++) {
                if (isIn(called, phase)) {
                    return phase;
                }
            }
            for (int phase = 0; phase < current; phase++) {
                if (isIn(called, phase)) {
                    return phase;
                }
            }
            return current;
        }

        private boolean isHeld() {
            return cycle > 0 && current == 0 && local() < split;
        }

        private boolean isForced() {
            return cycle > 0 && current != 0 && local() >= phases.forces[current];
        }

        private boolean areAllGreenForLeast() {
            for (int s = 0; s < junction.number; s++) {
                if (isInPhase(s) && !isGreenFor(s, signals.rule(s, LEAST))) {
                    return false;
                }
            }
            return true;
        }

        private boolean isOneGreenForMost() {
            for (int s = 0; s < junction.number; s++) {
                if (isInPhase(s) && isGreenFor(s, signals.rule(s, MOST))) {
                    return true;
                }
            }
            return false;
        }

        private boolean areAllGapsOver() {
            for (int s = 0; s < junction.number; s++) {
                int seen = signals.seen[s];
                if (isInPhase(s) && seen != NEVER && second - seen < signals.rule(s, GAP)) {
                    return false;
                }
            }
            return true;
        }

        private boolean isInPhase(int signal) {
            return isIn(phases.sets[current], signal);
        }

        private boolean isGreenFor(int signal, int seconds) {
            return signals.isGreen(signal) && second - signals.began[signal] >= seconds;
        }

        private void changeTo(int next) {
            for (int s = 0; s < junction.number; s++) {
                if (signals.isGreen(s) && !isIn(phases.sets[next], s)) {
                    signals.endGreen(s, second);
                    record.addAsLatest(s, signals.began[s], second);
                }
            }
            comeOn(next);
        }

        private void turnGreen() {
            for (int s = 0; s < junction.number; s++) {
                if (isInPhase(s) && !signals.isGreen(s) && isClearFor(s)) {
                    signals.beginGreen(s, second);
                }
            }
        }

        private boolean isClearFor(int signal) {
            for (int s = 0; s < junction.number; s++) {
                int ended = signals.ended[s];
                if (ended != NEVER && junction.meet(s, signal) && second - ended < junction.clearOf(s, signal)) {
                    return false;
                }
            }
            return true;
        }

        private void letGo() {
            for (int s = 0; s < junction.number; s++) {
                if (signals.isGreen(s) && signals.queue[s] > 0) {
                    int goers = goersOf(s, second - signals.began[s]);
                    signals.queue[s] -= goers;
                    signals.served[s] += goers;
                    served += goers;
                }
            }
        }

        private int goersOf(int signal, int secondsGreen) {
            switch (junction.kinds[signal]) {
                case CARS:
                    return secondsGreen % 2 == 0 ? 1 : 0;
                case WALK:
                    return signals.queue[signal];
                case TRAM:
                    return secondsGreen % 4 == 0 ? 1 : 0;
                default:
                    return 1;
            }
        }

        int calledPhases() {
            if (!started) {
                return 0;
            }
            int calling = signals.calling();
            int called = 0;
            for (int phase = 0; phase < phases.number; phase++) {
                boolean byCycle = phase == 0 && cycle > 0;
                if (phase != current && (byCycle || (phases.sets[phase] & calling) != 0)) {
                    called |= 1 << phase;
                }
            }
            return called;
        }

        private int local() {
            return cycle > 0 ? Math.floorMod(second - offset, cycle) : NEVER;
        }

        /** RED, AMBER or GREEN. */
        int lightOf(int signal) {
            if (signals.isGreen(signal)) {
                return GREEN_LIGHT;
            }
            int ended = signals.ended[signal];
            return ended != NEVER && second < ended + junction.amber(signal) ? AMBER_LIGHT : RED_LIGHT;
        }

        private int amberSignals() {
            int bits = 0;
            for (int s = 0; s < junction.number; s++) {
                if (lightOf(s) == AMBER_LIGHT) {
                    bits |= 1 << s;
                }
            }
            return bits;
        }

        /** What told() answers. */
        int fact(int what) {
            switch (what) {
                case 0:
                    return second;
                case 1:
                    return current;
                case 2:
                    return cut;
                case 3:
                    return emergency;
                case 4:
                    return waited;
                case 5:
                    return served;
                case 6:
                    return lost;
                case 7:
                    return signals.green;
                case 8:
                    return amberSignals();
                case 9:
                    return calledPhases();
                case 10:
                    return seed;
                case 11:
                    return junction.safety;
                case 12:
                    return cycle;
                case 13:
                    return offset;
                case 14:
                    return split;
                case 15:
                    return local();
                case 16:
                    return junction.number;
                case 17:
                    return phases.number;
                case 18:
                    return signals.allQueues();
                default:
                    return NONE;
            }
        }

        /** What of() answers. */
        int factOf(int signal, int what) {
            switch (what) {
                case 0:
                    return junction.kinds[signal];
                case 1:
                case 2:
                case 3:
                case 4:
                    return signals.rule(signal, what - 1);
                case 5:
                    return signals.queue[signal];
                case 6:
                    return lightOf(signal);
                case 7:
                    return signals.began[signal];
                case 8:
                    return signals.ended[signal];
                case 9:
                    return signals.seen[signal];
                case 10:
                    return signals.served[signal];
                case 11:
                    return junction.lengths[signal];
                case 12:
                    return junction.meetersOf(signal);
                case 13:
                    return signals.begun[signal];
                default:
                    return NONE;
            }
        }

        int recordedGreens(int signal) {
            int many = 0;
            for (int r = 0; r < record.number; r++) {
                if (record.at(r, 0) == signal) {
                    many++;
                }
            }
            return many;
        }

        int recordedTime(int signal) {
            int together = 0;
            for (int r = 0; r < record.number; r++) {
                if (record.at(r, 0) == signal) {
                    together += recordedLength(r);
                }
            }
            return together;
        }

        int shortestGreen(int signal) {
            int shortest = NEVER;
            for (int r = 0; r < record.number; r++) {
                if (record.at(r, 0) == signal && (shortest == NEVER || recordedLength(r) < shortest)) {
                    shortest = recordedLength(r);
                }
            }
            return shortest;
        }

        int longestGreen(int signal) {
            int longest = NEVER;
            for (int r = 0; r < record.number; r++) {
                if (record.at(r, 0) == signal) {
                    longest = Math.max(longest, recordedLength(r));
                }
            }
            return longest;
        }

        private int recordedLength(int r) {
            return record.at(r, 2) - record.at(r, 1);
        }

        /** Signals (bits) that could take a cell by what is green now. */
        int takersNow(int cell, int when) {
            int takers = 0;
            for (int s = 0; s < junction.number; s++) {
                int place = signals.isGreen(s) ? junction.placeOf(s, cell) : NEVER;
                if (place != NEVER && when >= junction.reaches(s, place, signals.began[s])) {
                    takers |= 1 << s;
                }
            }
            return takers;
        }
    }

    /** Kinds and ways of the signals, and what the ways clear. */
    private static final class Junction {
        int number;
        int safety = 1;
        final int[] kinds = new int[SIGNALS];
        final int[] lengths = new int[SIGNALS];
        final int[] ways = new int[SIGNALS * LONGEST_WAY];
        /** At a * SIGNALS + b: clear of a to b, without the safety, which may change behind the ways. */
        final int[] bareClears = new int[SIGNALS * SIGNALS];
        /** At a * SIGNALS + b: narrow of a to b; NEVER, if they don't meet. */
        final int[] narrows = new int[SIGNALS * SIGNALS];

        Junction() {
            Arrays.fill(narrows, NEVER);
        }

        void copyFrom(Junction other) {
            number = other.number;
            safety = other.safety;
            System.arraycopy(other.kinds, 0, kinds, 0, SIGNALS);
            System.arraycopy(other.lengths, 0, lengths, 0, SIGNALS);
            System.arraycopy(other.ways, 0, ways, 0, SIGNALS * LONGEST_WAY);
            System.arraycopy(other.bareClears, 0, bareClears, 0, SIGNALS * SIGNALS);
            System.arraycopy(other.narrows, 0, narrows, 0, SIGNALS * SIGNALS);
        }

        int addSignal(int kind, int cell) {
            int signal = number;
            number++;
            kinds[signal] = kind;
            addCell(signal, cell);
            return signal;
        }

        int addCell(int signal, int cell) {
            ways[signal * LONGEST_WAY + lengths[signal]] = cell;
            lengths[signal]++;
            for (int s = 0; s < number; s++) {
                if (s != signal) {
                    measure(signal, s);
                    measure(s, signal);
                }
            }
            return lengths[signal];
        }

        private void measure(int a, int b) {
            int narrow = NEVER;
            int greatest = 0;
            for (int i = 0; i < lengths[a]; i++) {
                int cell = cellAt(a, i);
                int j = placeOf(b, cell);
                if (j == NEVER) {
                    continue;
                }
                int needed = leaves(a, i, 0) - reaches(b, j, 0);
                if (narrow == NEVER || needed > greatest) {
                    narrow = cell;
                    greatest = needed;
                }
            }
            narrows[a * SIGNALS + b] = narrow;
            bareClears[a * SIGNALS + b] = Math.max(greatest, amber(a));
        }

        int cellAt(int signal, int i) {
            return ways[signal * LONGEST_WAY + i];
        }

        /** Where in a signal's way a cell is, or NEVER. */
        int placeOf(int signal, int cell) {
            for (int i = 0; i < lengths[signal]; i++) {
                if (cellAt(signal, i) == cell) {
                    return i;
                }
            }
            return NEVER;
        }

        int amber(int signal) {
            return AMBER[kinds[signal]];
        }

        private int pace(int signal) {
            return PACE[kinds[signal]];
        }

        /** The first second in which the i-th cell could be taken by a green. */
        int reaches(int signal, int i, int began) {
            return began + pace(signal) * i;
        }

        /** The first second in which the i-th cell could no longer be taken by a green. */
        int leaves(int signal, int i, int end) {
            return end + amber(signal) + pace(signal) * (i + 1);
        }

        boolean meet(int a, int b) {
            return narrows[a * SIGNALS + b] != NEVER;
        }

        int clearOf(int a, int b) {
            return bareClears[a * SIGNALS + b] + safety;
        }

        int meetersOf(int signal) {
            int bits = 0;
            for (int s = 0; s < number; s++) {
                if (meet(signal, s)) {
                    bits |= 1 << s;
                }
            }
            return bits;
        }

        boolean twoMeetIn(int set) {
            for (int s = 0; s < number; s++) {
                if (isIn(set, s) && (meetersOf(s) & set) != 0) {
                    return true;
                }
            }
            return false;
        }

        int meetings() {
            int sides = 0;
            for (int s = 0; s < number; s++) {
                sides += Integer.bitCount(meetersOf(s));
            }
            return sides / 2;
        }

        int greatestClear() {
            int greatest = 0;
            for (int a = 0; a < number; a++) {
                for (int b = 0; b < number; b++) {
                    if (meet(a, b)) {
                        greatest = Math.max(greatest, clearOf(a, b));
                    }
                }
            }
            return greatest;
        }

        int allClears() {
            int together = 0;
            for (int a = 0; a < number; a++) {
                for (int b = 0; b < number; b++) {
                    if (meet(a, b)) {
                        together += clearOf(a, b);
                    }
                }
            }
            return together;
        }
    }

    /** The signals' rules, queues and greens. */
    private static final class Signals {
        /** Bits. */
        int green;
        /** At signal * RULES + what. */
        final int[] rules = new int[SIGNALS * RULES];
        final int[] queue = new int[SIGNALS];
        final int[] seen = new int[SIGNALS];
        final int[] served = new int[SIGNALS];
        final int[] began = new int[SIGNALS];
        final int[] ended = new int[SIGNALS];
        /** How many greens it began. */
        final int[] begun = new int[SIGNALS];

        Signals() {
            Arrays.fill(seen, NEVER);
            Arrays.fill(began, NEVER);
            Arrays.fill(ended, NEVER);
            for (int s = 0; s < SIGNALS; s++) {
                rules[s * RULES + LEAST] = 5;
                rules[s * RULES + MOST] = 40;
                rules[s * RULES + GAP] = 3;
            }
        }

        void copyFrom(Signals other) {
            green = other.green;
            System.arraycopy(other.rules, 0, rules, 0, SIGNALS * RULES);
            System.arraycopy(other.queue, 0, queue, 0, SIGNALS);
            System.arraycopy(other.seen, 0, seen, 0, SIGNALS);
            System.arraycopy(other.served, 0, served, 0, SIGNALS);
            System.arraycopy(other.began, 0, began, 0, SIGNALS);
            System.arraycopy(other.ended, 0, ended, 0, SIGNALS);
            System.arraycopy(other.begun, 0, begun, 0, SIGNALS);
        }

        int rule(int signal, int what) {
            return rules[signal * RULES + what];
        }

        int lowest(int signal, int what) {
            if (what == MOST) {
                return rule(signal, LEAST);
            }
            return what == RATE ? 0 : 1;
        }

        int highest(int signal, int what) {
            switch (what) {
                case LEAST:
                    return Math.min(20, rule(signal, MOST));
                case MOST:
                    return 99;
                case GAP:
                    return GAPS;
                default:
                    return 60;
            }
        }

        void setGaps(int gap) {
            for (int s = 0; s < SIGNALS; s++) {
                rules[s * RULES + GAP] = gap;
            }
        }

        /** How many of those who came are lost. */
        int join(int signal, int n) {
            int wanted = queue[signal] + n;
            queue[signal] = Math.min(wanted, LONGEST_QUEUE);
            return wanted - queue[signal];
        }

        int allQueues() {
            int together = 0;
            for (int s = 0; s < SIGNALS; s++) {
                together += queue[s];
            }
            return together;
        }

        int calling() {
            int bits = 0;
            for (int s = 0; s < SIGNALS; s++) {
                if (queue[s] > 0 && !isGreen(s)) {
                    bits |= 1 << s;
                }
            }
            return bits;
        }

        boolean isGreen(int signal) {
            return (green >> signal & 1) != 0;
        }

        void beginGreen(int signal, int second) {
            green |= 1 << signal;
            began[signal] = second;
            begun[signal]++;
        }

        void endGreen(int signal, int second) {
            green &= ~(1 << signal);
            ended[signal] = second;
        }
    }

    private static final class Phases {
        int number;
        final int[] sets = new int[PHASES];
        final int[] forces = new int[PHASES];
        /** How often each came on. */
        final int[] comings = new int[PHASES];

        void copyFrom(Phases other) {
            number = other.number;
            System.arraycopy(other.sets, 0, sets, 0, PHASES);
            System.arraycopy(other.forces, 0, forces, 0, PHASES);
            System.arraycopy(other.comings, 0, comings, 0, PHASES);
        }

        int add(int set, int force) {
            int phase = number;
            number++;
            sets[phase] = set;
            forces[phase] = force;
            return phase;
        }

        int firstWith(int signal) {
            for (int phase = 0; phase < number; phase++) {
                if (isIn(sets[phase], signal)) {
                    return phase;
                }
            }
            return NEVER;
        }
    }

    /** Rows of three numbers, in the order in which they came. */
    private static final class Rows {
        private static final int WIDTH = 3;

        int number;
        final int most;
        final int[] items;

        Rows(int most) {
            this.most = most;
            this.items = new int[most * WIDTH];
        }

        void copyFrom(Rows other) {
            number = other.number;
            System.arraycopy(other.items, 0, items, 0, Math.min(items.length, other.items.length));
        }

        int at(int r, int k) {
            return items[r * WIDTH + k];
        }

        /** Whether there was room. */
        boolean add(int first, int second, int third) {
            if (number >= most) {
                return false;
            }
            int place = number * WIDTH;
            items[place] = first;
            items[place + 1] = second;
            items[place + 2] = third;
            number++;
            return true;
        }

        /** Makes room by dropping the oldest row. */
        void addAsLatest(int first, int second, int third) {
            if (number >= most) {
                System.arraycopy(items, WIDTH, items, 0, items.length - WIDTH);
                number = most - 1;
            }
            add(first, second, third);
        }
    }

    /** Nodes along a street, whose lights go by one round. */
    private static final class Wave {
        static final int OFFSET = 0, LONG = 1, TRAVEL = 2;
        private static final int WIDTH = 3;

        int round = 30;
        int number;
        final int[] items = new int[NODES * WIDTH];

        void copyFrom(Wave other) {
            round = other.round;
            number = other.number;
            System.arraycopy(other.items, 0, items, 0, NODES * WIDTH);
        }

        boolean allows(int what, int v) {
            switch (what) {
                case OFFSET:
                    return within(v, 0, round - 1);
                case LONG:
                    return within(v, 1, round);
                default:
                    return within(v, 0, 99);
            }
        }

        int at(int node, int what) {
            return items[node * WIDTH + what];
        }

        void put(int node, int what, int v) {
            items[node * WIDTH + what] = v;
        }

        int add(int offset, int wide, int travel) {
            int node = number;
            number++;
            put(node, OFFSET, offset);
            put(node, LONG, wide);
            put(node, TRAVEL, travel);
            return node;
        }

        int bothBands() {
            return bandOn() + bandBack();
        }

        int bandOn() {
            if (number == 0) {
                return 0;
            }
            long good = allSeconds();
            int gone = 0;
            for (int node = 0; node < number; node++) {
                good &= openSeconds(node, gone);
                gone += at(node, TRAVEL);
            }
            return Long.bitCount(good);
        }

        int bandBack() {
            if (number == 0) {
                return 0;
            }
            long good = allSeconds();
            int gone = 0;
            for (int node = number - 1; node >= 0; node--) {
                if (node < number - 1) {
                    gone += at(node, TRAVEL);
                }
                good &= openSeconds(node, gone);
            }
            return Long.bitCount(good);
        }

        /** A round's seconds as bits: a round has 60 at most, and so a long holds it. */
        private long allSeconds() {
            return (1L << round) - 1;
        }

        /** The seconds (bits) so that who leaves in them, and is under way for so long, finds the node open. */
        private long openSeconds(int node, int gone) {
            if (round <= 0) {
                return 0;
            }
            int first = Math.floorMod(at(node, OFFSET) - gone, round);
            long wide = (1L << at(node, LONG)) - 1;
            return (wide << first | wide >>> (round - first)) & allSeconds();
        }

        int bandsWith(int node, int offset) {
            int had = at(node, OFFSET);
            put(node, OFFSET, offset);
            int bands = bandOn() + bandBack();
            put(node, OFFSET, had);
            return bands;
        }

        int bestOffset(int node) {
            int best = 0;
            int greatest = -1;
            for (int offset = 0; offset < round; offset++) {
                int bands = bandsWith(node, offset);
                if (bands > greatest) {
                    best = offset;
                    greatest = bands;
                }
            }
            return best;
        }

        void tuneAll() {
            for (int time = 0; time < 4; time++) {
                for (int node = 0; node < number; node++) {
                    int best = bestOffset(node);
                    if (bandsWith(node, best) > bothBands()) {
                        put(node, OFFSET, best);
                    }
                }
            }
        }
    }

    /** The text, and the clauses that it was read as. */
    private static final class Reader {
        final int[] signs = new int[LONGEST_TEXT];
        int length;
        int place;
        int fault;
        int clauses;
        final int[] kinds = new int[CLAUSES];
        final int[] lengths = new int[CLAUSES];
        final int[] ways = new int[CLAUSES * LONGEST_WAY];
        /** At clause * RULES + what. */
        final int[] numbers = new int[CLAUSES * RULES];

        int append(int sign) {
            signs[length] = sign;
            length++;
            return length;
        }

        /** Whether all of the text are clauses; else there is a fault. */
        boolean parse() {
            place = 0;
            clauses = 0;
            for (int c = 0; c < CLAUSES; c++) {
                if (!parseClause(c)) {
                    return false;
                }
                clauses++;
                if (place == length) {
                    return true;
                }
                if (clauses == CLAUSES || sign() != ';') {
                    return failAt(place);
                }
                place++;
            }
            return failAt(place);
        }

        private boolean failAt(int where) {
            fault = where;
            return false;
        }

        /** The sign at the place, or -1 behind the last one. */
        private int sign() {
            return place < length ? signs[place] : -1;
        }

        private boolean parseClause(int c) {
            int kind = kindOf(sign());
            if (kind == NEVER) {
                return failAt(place);
            }
            kinds[c] = kind;
            place++;
            return parseWay(c) && parseNumbers(c);
        }

        private static int kindOf(int letter) {
            switch (letter) {
                case 'c':
                    return CARS;
                case 'w':
                    return WALK;
                case 't':
                    return TRAM;
                case 'b':
                    return BIKES;
                default:
                    return NEVER;
            }
        }

        private boolean parseWay(int c) {
            lengths[c] = 0;
            for (int i = 0; i < LONGEST_WAY; i++) {
                int letter = sign() - 'a';
                if (!within(letter, 0, 7)) {
                    return i > 0 || failAt(place);
                }
                place++;
                int digit = sign() - '1';
                if (!within(digit, 0, 7) || hasCell(c, letter + 8 * digit)) {
                    return failAt(place);
                }
                place++;
                ways[c * LONGEST_WAY + i] = letter + 8 * digit;
                lengths[c] = i + 1;
            }
            return true;
        }

        private boolean hasCell(int c, int cell) {
            for (int i = 0; i < lengths[c]; i++) {
                if (ways[c * LONGEST_WAY + i] == cell) {
                    return true;
                }
            }
            return false;
        }

        private boolean parseNumbers(int c) {
            int first = c * RULES;
            numbers[first + LEAST] = 5;
            numbers[first + MOST] = 40;
            numbers[first + GAP] = 3;
            numbers[first + RATE] = 0;
            return parseNumber('*', first + LEAST, 2, 1, 20)
                    && parseNumber('/', first + MOST, 2, numbers[first + LEAST], 99)
                    && parseNumber('~', first + GAP, 1, 1, 9)
                    && parseNumber('@', first + RATE, 2, 0, 60);
        }

        private boolean parseNumber(int mark, int slot, int mostDigits, int low, int high) {
            if (sign() != mark) {
                return true;
            }
            place++;
            if (!within(sign(), '0', '9')) {
                return failAt(place);
            }
            int value = 0;
            for (int d = 0; d < mostDigits && within(sign(), '0', '9'); d++) {
                value = value * 10 + sign() - '0';
                place++;
            }
            numbers[slot] = value;
            return within(value, low, high) || failAt(place - 1);
        }
    }

    /** A row of items of one sort, or nothing. */
    private static final class Tape {
        int sort = NEVER;
        int length;
        /** Items of each sort are held as longs, so that no row is ever made anew. */
        final long[] items = new long[LONGEST_TAPE];

        void holdNothing() {
            sort = NEVER;
            length = 0;
        }

        void hold(int newSort, int n) {
            sort = newSort;
            length = n;
            Arrays.fill(items, 0L);
        }

        boolean hasPlace(int i) {
            return within(i, 0, length - 1);
        }

        boolean hasPlaces(int i, int n) {
            return within(n, 0, length) && within(i, 0, length - n);
        }

        long narrowed(long v) {
            switch (sort) {
                case BYTES:
                    return (byte) v;
                case SHORTS:
                    return (short) v;
                case INTS:
                    return (int) v;
                case LONGS:
                    return v;
                default:
                    return v != 0 ? 1 : 0;
            }
        }
    }
}
