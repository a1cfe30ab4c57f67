import java.util.ArrayList;
import java.util.Arrays;
import java.util.List;

/**
 * The document told once more, as plainly as can be and without a thought for speed or room, for
 * ModelTest to compare with. It shares nothing with SafeClears.java.
 */
public final class Model {
    static final int NONE = -1, BAD = -2, STATE = -3, FULL = -4, NOTHING = -11, CAST = -12, PLACE = -13, SIZE = -14;
    static final long NO = Long.MIN_VALUE;

    static final class Signal {
        int kind, least = 5, most = 40, gap = 3, rate, queue, served, begun;
        List<Integer> way = new ArrayList<>();
        boolean green;
        Integer began, end, seen;

        Signal copy() {
            Signal s = new Signal();
            s.kind = kind;
            s.least = least;
            s.most = most;
            s.gap = gap;
            s.rate = rate;
            s.queue = queue;
            s.served = served;
            s.begun = begun;
            s.way = new ArrayList<>(way);
            s.green = green;
            s.began = began;
            s.end = end;
            s.seen = seen;
            return s;
        }

        int amber() {
            return kind == 0 ? 3 : kind == 1 ? 2 : kind == 2 ? 4 : 2;
        }

        int pace() {
            return kind == 0 ? 1 : kind == 1 ? 3 : kind == 2 ? 2 : 1;
        }
    }

    static final class Phase {
        int set, force, on;
    }

    static final class All {
        List<Signal> signals = new ArrayList<>();
        List<Phase> phases = new ArrayList<>();
        int safety = 1, seed = 1, second, waited, served, lost, cycle, offset, split;
        boolean started;
        Integer on, cut, emergency;
        List<int[]> record = new ArrayList<>();
        int round = 30;
        List<int[]> nodes = new ArrayList<>();
        List<int[]> greens = new ArrayList<>();
        List<int[]> notes = new ArrayList<>();
        List<int[]> plan = new ArrayList<>();

        All copy() {
            All a = new All();
            for (Signal s : signals) {
                a.signals.add(s.copy());
            }
            for (Phase p : phases) {
                Phase q = new Phase();
                q.set = p.set;
                q.force = p.force;
                q.on = p.on;
                a.phases.add(q);
            }
            a.safety = safety;
            a.seed = seed;
            a.second = second;
            a.waited = waited;
            a.served = served;
            a.lost = lost;
            a.cycle = cycle;
            a.offset = offset;
            a.split = split;
            a.started = started;
            a.on = on;
            a.cut = cut;
            a.emergency = emergency;
            a.record = copyRows(record);
            a.round = round;
            a.nodes = copyRows(nodes);
            a.greens = copyRows(greens);
            a.notes = copyRows(notes);
            a.plan = copyRows(plan);
            return a;
        }

        static List<int[]> copyRows(List<int[]> rows) {
            List<int[]> copies = new ArrayList<>();
            for (int[] row : rows) {
                copies.add(row.clone());
            }
            return copies;
        }

        boolean meet(int a, int b) {
            return a != b && signals.get(a).way.stream().anyMatch(c -> signals.get(b).way.contains(c));
        }

        /** Clear and narrow; null: they don't meet. */
        int[] clearAndNarrow(int a, int b) {
            if (!meet(a, b)) {
                return null;
            }
            Signal x = signals.get(a);
            Signal y = signals.get(b);
            int greatest = Integer.MIN_VALUE;
            int narrow = -1;
            for (int i = 0; i < x.way.size(); i++) {
                for (int j = 0; j < y.way.size(); j++) {
                    if (x.way.get(i).equals(y.way.get(j))) {
                        int v = x.amber() + x.pace() * (i + 1) - y.pace() * j;
                        if (v > greatest) {
                            greatest = v;
                            narrow = x.way.get(i);
                        }
                    }
                }
            }
            return new int[] {Math.max(greatest, x.amber()) + safety, narrow};
        }

        int clear(int a, int b) {
            return clearAndNarrow(a, b)[0];
        }

        int draw60() {
            seed = seed * 1103515245 + 12345;
            return (seed >>> 9) % 60;
        }

        boolean has(int phase, int signal) {
            return (phases.get(phase).set & 1 << signal) != 0;
        }

        List<Integer> members(int phase) {
            List<Integer> list = new ArrayList<>();
            for (int s = 0; s < signals.size(); s++) {
                if (has(phase, s)) {
                    list.add(s);
                }
            }
            return list;
        }

        boolean called(int phase) {
            if (!started || phase == on) {
                return false;
            }
            if (phase == 0 && cycle != 0) {
                return true;
            }
            for (int s : members(phase)) {
                if (signals.get(s).queue > 0 && !signals.get(s).green) {
                    return true;
                }
            }
            return false;
        }

        Integer firstPhaseWith(int signal) {
            for (int p = 0; p < phases.size(); p++) {
                if (has(p, signal)) {
                    return p;
                }
            }
            return null;
        }

        int local() {
            int l = (second - offset) % cycle;
            return l < 0 ? l + cycle : l;
        }

        void change() {
            if (emergency != null) {
                if (has(on, emergency)) {
                    return;
                }
                for (int s : members(on)) {
                    Signal x = signals.get(s);
                    if (x.green && second - x.began < Math.ceil(x.least / 2.0)) {
                        return;
                    }
                }
                if (cut == null) {
                    cut = on;
                }
                changeTo(firstPhaseWith(emergency));
                return;
            }
            for (int s : members(on)) {
                Signal x = signals.get(s);
                if (!x.green || second - x.began < x.least) {
                    return;
                }
            }
            List<Integer> others = new ArrayList<>();
            for (int k = 1; k < phases.size(); k++) {
                int p = (on + k) % phases.size();
                if (called(p)) {
                    others.add(p);
                }
            }
            boolean held = cycle != 0 && on == 0 && local() < split;
            if (others.isEmpty() || held) {
                return;
            }
            boolean forced = cycle != 0 && on != 0 && local() >= phases.get(on).force;
            boolean most = false;
            boolean gaps = true;
            for (int s : members(on)) {
                Signal x = signals.get(s);
                most |= second - x.began >= x.most;
                gaps &= x.seen == null || second - x.seen >= x.gap;
            }
            if (forced || most || gaps) {
                int to = cut != null && called(cut) ? cut : others.get(0);
                cut = null;
                changeTo(to);
            }
        }

        void changeTo(int phase) {
            for (int s = 0; s < signals.size(); s++) {
                Signal x = signals.get(s);
                if (x.green && !has(phase, s)) {
                    x.green = false;
                    x.end = second;
                    record.add(new int[] {s, x.began, second});
                    if (record.size() > 24) {
                        record.remove(0);
                    }
                }
            }
            on = phase;
            phases.get(phase).on++;
        }

        void passOne() {
            for (Signal x : signals) {
                if (x.rate > 0 && draw60() < x.rate) {
                    arrive(x, 1);
                }
            }
            for (Signal x : signals) {
                if (x.queue > 0) {
                    x.seen = second;
                }
            }
            change();
            for (int s : members(on)) {
                Signal x = signals.get(s);
                boolean may = !x.green;
                for (int o = 0; o < signals.size(); o++) {
                    Integer end = signals.get(o).end;
                    if (meet(o, s) && end != null && second - end < clear(o, s)) {
                        may = false;
                    }
                }
                if (may) {
                    x.green = true;
                    x.began = second;
                    x.begun++;
                }
            }
            for (Signal x : signals) {
                if (x.green && x.queue > 0) {
                    int k = second - x.began;
                    int go = x.kind == 1 ? x.queue : x.kind == 3 ? 1 : k % (x.kind == 0 ? 2 : 4) == 0 ? 1 : 0;
                    x.queue -= go;
                    x.served += go;
                    served += go;
                }
            }
            for (Signal x : signals) {
                waited += x.queue;
            }
            second++;
        }

        void arrive(Signal x, int n) {
            for (int i = 0; i < n; i++) {
                if (x.queue == 99) {
                    lost++;
                } else {
                    x.queue++;
                }
            }
        }

        All after(int n) {
            All a = copy();
            for (int i = 0; i < n; i++) {
                a.passOne();
            }
            return a;
        }

        All withGap(int gap) {
            All a = copy();
            for (Signal x : a.signals) {
                x.gap = gap;
            }
            return a;
        }

        int greenBits() {
            int bits = 0;
            for (int s = 0; s < signals.size(); s++) {
                bits |= signals.get(s).green ? 1 << s : 0;
            }
            return bits;
        }

        int light(int s) {
            Signal x = signals.get(s);
            return x.green ? 2 : x.end != null && second < x.end + x.amber() ? 1 : 0;
        }

        int told(int what) {
            int bits = 0;
            switch (what) {
                case 0: return second;
                case 1: return orNever(on);
                case 2: return orNever(cut);
                case 3: return orNever(emergency);
                case 4: return waited;
                case 5: return served;
                case 6: return lost;
                case 7: return greenBits();
                case 8:
                    for (int s = 0; s < signals.size(); s++) {
                        bits |= light(s) == 1 ? 1 << s : 0;
                    }
                    return bits;
                case 9:
                    for (int p = 0; p < phases.size(); p++) {
                        bits |= called(p) ? 1 << p : 0;
                    }
                    return bits;
                case 10: return seed;
                case 11: return safety;
                case 12: return cycle;
                case 13: return offset;
                case 14: return split;
                case 15: return cycle == 0 ? -5 : local();
                case 16: return signals.size();
                case 17: return phases.size();
                case 18: return signals.stream().mapToInt(x -> x.queue).sum();
                default: return NONE;
            }
        }

        boolean open(int node, int t) {
            int[] row = nodes.get(node);
            int m = (t - row[0]) % round;
            return (m < 0 ? m + round : m) < row[1];
        }

        int bandOn() {
            int n = 0;
            for (int t = 0; t < round && !nodes.isEmpty(); t++) {
                boolean good = true;
                int at = t;
                for (int k = 0; k < nodes.size(); k++) {
                    good &= open(k, at);
                    at += nodes.get(k)[2];
                }
                n += good ? 1 : 0;
            }
            return n;
        }

        int bandBack() {
            int n = 0;
            for (int t = 0; t < round && !nodes.isEmpty(); t++) {
                int last = nodes.size() - 1;
                boolean good = open(last, t);
                int at = t;
                for (int k = last - 1; k >= 0; k--) {
                    at += nodes.get(k)[2];
                    good &= open(k, at);
                }
                n += good ? 1 : 0;
            }
            return n;
        }

        int bands() {
            return bandOn() + bandBack();
        }

        /** Best offset and both bands then. */
        int[] best(int node) {
            int had = nodes.get(node)[0];
            int[] best = {0, -1};
            for (int o = 0; o < round; o++) {
                nodes.get(node)[0] = o;
                if (bands() > best[1]) {
                    best = new int[] {o, bands()};
                }
            }
            nodes.get(node)[0] = had;
            return best;
        }

        int takers(int cell, int t, int by) {
            List<int[]> rows = new ArrayList<>(by == 0 ? record : greens);
            if (by == 0) {
                for (int s = 0; s < signals.size(); s++) {
                    if (signals.get(s).green) {
                        rows.add(new int[] {s, signals.get(s).began, 1_000_000});
                    }
                }
            }
            int bits = 0;
            for (int[] row : rows) {
                Signal x = signals.get(row[0]);
                for (int i = 0; i < x.way.size(); i++) {
                    boolean taken = t >= row[1] + x.pace() * i && t < row[2] + x.amber() + x.pace() * (i + 1);
                    bits |= taken && x.way.get(i) == cell ? 1 << row[0] : 0;
                }
            }
            return bits;
        }
    }

    private All a = new All();
    private All image;
    private String text = "";
    private int counted;
    private final long[][] tapes = new long[6][];
    private final int[] sorts = new int[6];

    static int orNever(Integer v) {
        return v == null ? -5 : v;
    }

    private boolean isSignal(int s) {
        return s >= 0 && s < a.signals.size();
    }

    private static boolean out(int v, int low, int high) {
        return v < low || v > high;
    }

    private boolean full(int seconds) {
        if (counted + seconds > 12000) {
            return true;
        }
        counted += seconds;
        return false;
    }

    public int signal(int kind, int cell) {
        if (out(kind, 0, 3) || out(cell, 0, 63)) return BAD;
        if (a.started) return STATE;
        if (a.signals.size() == 8) return FULL;
        Signal x = new Signal();
        x.kind = kind;
        x.way.add(cell);
        a.signals.add(x);
        return a.signals.size() - 1;
    }

    public int goes(int signal, int cell) {
        if (!isSignal(signal)) return NONE;
        List<Integer> way = a.signals.get(signal).way;
        if (out(cell, 0, 63) || way.contains(cell)) return BAD;
        if (!a.phases.isEmpty()) return STATE;
        if (way.size() == 8) return FULL;
        way.add(cell);
        return way.size();
    }

    public int tell(int signal, int what, int v) {
        if (!isSignal(signal) || out(what, 0, 3)) return NONE;
        Signal x = a.signals.get(signal);
        int was = new int[] {x.least, x.most, x.gap, x.rate}[what];
        if (what == 0 && (out(v, 1, 20) || v > x.most)) return BAD;
        if (what == 1 && out(v, x.least, 99)) return BAD;
        if (what == 2 && out(v, 1, 9)) return BAD;
        if (what == 3 && out(v, 0, 60)) return BAD;
        if (what == 0) x.least = v;
        if (what == 1) x.most = v;
        if (what == 2) x.gap = v;
        if (what == 3) x.rate = v;
        return was;
    }

    public int feed(int sign) {
        if (out(sign, 0, 127)) return BAD;
        if (text.length() == 100) return FULL;
        text += (char) sign;
        return text.length();
    }

    /** Thrown with the fault. */
    private static final class Fault extends Exception {
        private static final long serialVersionUID = 1L;
        final int place;

        Fault(int place) {
            this.place = place;
        }
    }

    private static final class Cursor {
        final String text;
        int at;

        Cursor(String text) {
            this.text = text;
        }

        boolean sees(String signs) {
            return at < text.length() && signs.indexOf(text.charAt(at)) >= 0;
        }

        int take(String signs) throws Fault {
            if (!sees(signs)) {
                throw new Fault(at);
            }
            return signs.indexOf(text.charAt(at++));
        }

        int number(String mark, int digits, int low, int high, int otherwise) throws Fault {
            if (!sees(mark)) {
                return otherwise;
            }
            at++;
            int v = take("0123456789");
            if (digits == 2 && sees("0123456789")) {
                v = 10 * v + take("0123456789");
            }
            if (out(v, low, high)) {
                throw new Fault(at - 1);
            }
            return v;
        }
    }

    public int read() {
        Cursor c = new Cursor(text);
        text = "";
        if (a.started) return STATE;
        List<Signal> come = new ArrayList<>();
        try {
            while (true) {
                Signal x = new Signal();
                x.kind = c.take("cwtb");
                do {
                    int letter = c.take("abcdefgh");
                    int digit = c.take("12345678");
                    if (x.way.contains(letter + 8 * digit)) throw new Fault(c.at - 1);
                    x.way.add(letter + 8 * digit);
                } while (c.sees("abcdefgh") && x.way.size() < 8);
                x.least = c.number("*", 2, 1, 20, 5);
                x.most = c.number("/", 2, x.least, 99, 40);
                x.gap = c.number("~", 1, 1, 9, 3);
                x.rate = c.number("@", 2, 0, 60, 0);
                come.add(x);
                if (c.at == c.text.length()) break;
                if (come.size() == 4) throw new Fault(c.at);
                c.take(";");
            }
        } catch (Fault f) {
            return -10 - f.place;
        }
        if (a.signals.size() + come.size() > 8) return FULL;
        a.signals.addAll(come);
        return come.size();
    }

    public int safety(int v) {
        if (out(v, 0, 5)) return BAD;
        if (a.started) return STATE;
        int was = a.safety;
        a.safety = v;
        return was;
    }

    public int phase(int set, int force) {
        if (set <= 0 || set >= 1 << a.signals.size() || out(force, 0, 239)) return BAD;
        if (a.started) return STATE;
        for (int s = 0; s < 8; s++) {
            for (int t = 0; t < 8; t++) {
                if ((set >> s & 1) == 1 && (set >> t & 1) == 1 && a.meet(s, t)) return STATE;
            }
        }
        if (a.phases.size() == 6) return FULL;
        Phase p = new Phase();
        p.set = set;
        p.force = force;
        a.phases.add(p);
        return a.phases.size() - 1;
    }

    public int start() {
        if (a.started || a.phases.isEmpty()) return STATE;
        a.started = true;
        a.on = 0;
        a.phases.get(0).on = 1;
        return a.phases.size();
    }

    public int cycle(int cycle, int offset, int split) {
        if (cycle != 0 && (out(cycle, 20, 240) || out(offset, 0, cycle - 1) || out(split, 1, cycle))) return BAD;
        int was = a.cycle;
        a.cycle = cycle;
        a.offset = cycle == 0 ? 0 : offset;
        a.split = cycle == 0 ? 0 : split;
        return was;
    }

    public int come(int signal, int n) {
        if (!isSignal(signal)) return NONE;
        if (out(n, 1, 20)) return BAD;
        a.arrive(a.signals.get(signal), n);
        return a.signals.get(signal).queue;
    }

    public int seed(int v) {
        int was = a.seed;
        a.seed = v;
        return was;
    }

    public int emergency(int signal) {
        if (!isSignal(signal)) return NONE;
        if (!a.started || a.emergency != null || a.firstPhaseWith(signal) == null) return STATE;
        a.emergency = signal;
        return a.firstPhaseWith(signal);
    }

    public int over() {
        if (a.emergency == null) return STATE;
        int was = a.emergency;
        a.emergency = null;
        return was;
    }

    public int pass(int n) {
        if (out(n, 0, 99)) return BAD;
        if (!a.started) return STATE;
        if (full(n)) return FULL;
        int was = a.served;
        a = a.after(n);
        return a.served - was;
    }

    public int told(int what) {
        return a.told(what);
    }

    public int of(int signal, int what) {
        if (!isSignal(signal) || out(what, 0, 13)) return NONE;
        Signal x = a.signals.get(signal);
        int meets = 0;
        for (int s = 0; s < a.signals.size(); s++) {
            meets |= a.meet(s, signal) ? 1 << s : 0;
        }
        return new int[] {x.kind, x.least, x.most, x.gap, x.rate, x.queue, a.light(signal), orNever(x.began),
            orNever(x.end), orNever(x.seen), x.served, x.way.size(), meets, x.begun}[what];
    }

    public int way(int signal, int k) {
        if (!isSignal(signal)) return NONE;
        List<Integer> way = a.signals.get(signal).way;
        return out(k, 0, way.size() - 1) ? BAD : way.get(k);
    }

    public int clear(int x, int y) {
        if (!isSignal(x) || !isSignal(y)) return NONE;
        return a.meet(x, y) ? a.clearAndNarrow(x, y)[0] : -5;
    }

    public int narrow(int x, int y) {
        if (!isSignal(x) || !isSignal(y)) return NONE;
        return a.meet(x, y) ? a.clearAndNarrow(x, y)[1] : -5;
    }

    public int table(int what) {
        int pairs = 0;
        int greatest = 0;
        int all = 0;
        for (int x = 0; x < a.signals.size(); x++) {
            for (int y = 0; y < a.signals.size(); y++) {
                if (a.meet(x, y)) {
                    pairs += x < y ? 1 : 0;
                    greatest = Math.max(greatest, a.clear(x, y));
                    all += a.clear(x, y);
                }
            }
        }
        int most = a.signals.stream().mapToInt(x -> x.most).max().orElse(0);
        int bound = (a.phases.size() + 1) * (greatest + most + 1);
        return out(what, 0, 3) ? NONE : new int[] {pairs, greatest, all, bound}[what];
    }

    public int phaseOf(int phase, int what) {
        if (out(phase, 0, a.phases.size() - 1) || out(what, 0, 3)) return NONE;
        Phase p = a.phases.get(phase);
        return new int[] {p.set, p.force, p.on, a.called(phase) ? 1 : 0}[what];
    }

    public int taken(int signal, int k) {
        if (!isSignal(signal)) return NONE;
        if (out(k, 0, 4)) return BAD;
        int kind = a.signals.get(signal).kind;
        boolean is = k == 0 || k == 1 && kind != 1 || k == 2 && (kind == 0 || kind == 2) || k == 3 && kind == 0
            || k == 4 && kind == 1;
        return is ? kind : CAST;
    }

    public int recorded(int i, int what) {
        if (out(what, 0, 2)) return NONE;
        if (out(i, 0, a.record.size() - 1)) return BAD;
        return a.record.get(a.record.size() - 1 - i)[what];
    }

    public int greens(int signal, int how) {
        if (!isSignal(signal) || out(how, 0, 3)) return NONE;
        int[] spans = a.record.stream().filter(r -> r[0] == signal).mapToInt(r -> r[2] - r[1]).toArray();
        switch (how) {
            case 0: return spans.length;
            case 1: return Arrays.stream(spans).sum();
            case 2: return Arrays.stream(spans).min().orElse(-5);
            default: return Arrays.stream(spans).max().orElse(-5);
        }
    }

    public int could(int cell, int second, int by) {
        if (out(by, 0, 1)) return NONE;
        if (out(cell, 0, 63) || out(second, 0, 9999)) return BAD;
        return a.takers(cell, second, by);
    }

    public int crowded(int second, int by) {
        if (out(by, 0, 1)) return NONE;
        if (out(second, 0, 9999)) return BAD;
        for (int c = 0; c < 64; c++) {
            int takers = a.takers(c, second, by);
            if ((takers & takers - 1) != 0) return c;
        }
        return -5;
    }

    public int green(int signal, int from, int to) {
        if (signal == -1) {
            a.greens.clear();
            return 0;
        }
        if (!isSignal(signal)) return NONE;
        if (out(from, 0, 9998) || to <= from || to > 9999) return BAD;
        if (a.greens.size() == 8) return FULL;
        a.greens.add(new int[] {signal, from, to});
        return a.greens.size();
    }

    public int proved() {
        for (int r = 0; r < a.greens.size(); r++) {
            for (int q = 0; q < r; q++) {
                int[] x = a.greens.get(r);
                int[] y = a.greens.get(q);
                if (a.meet(x[0], y[0]) && x[1] - y[2] < a.clear(y[0], x[0]) && y[1] - x[2] < a.clear(x[0], y[0])) {
                    return r;
                }
            }
        }
        return -5;
    }

    public int wave(int v) {
        if (out(v, 20, 60)) return BAD;
        int was = a.round;
        a.round = v;
        a.nodes.clear();
        return was;
    }

    private boolean badNode(int what, int v) {
        return what == 0 ? out(v, 0, a.round - 1) : what == 1 ? out(v, 1, a.round) : out(v, 0, 99);
    }

    public int node(int offset, int wide, int travel) {
        if (badNode(0, offset) || badNode(1, wide) || badNode(2, travel)) return BAD;
        if (a.nodes.size() == 5) return FULL;
        a.nodes.add(new int[] {offset, wide, travel});
        return a.nodes.size() - 1;
    }

    public int change(int node, int what, int v) {
        if (out(node, 0, a.nodes.size() - 1) || out(what, 0, 2)) return NONE;
        if (badNode(what, v)) return BAD;
        int was = a.nodes.get(node)[what];
        a.nodes.get(node)[what] = v;
        return was;
    }

    public int band(int way) {
        return way == 0 ? a.bandOn() : way == 1 ? a.bandBack() : way == 2 ? a.bands() : NONE;
    }

    public int nodeBest(int node, int what) {
        if (out(node, 0, a.nodes.size() - 1) || out(what, 0, 1)) return NONE;
        return full(10) ? FULL : a.best(node)[what];
    }

    public int tune() {
        if (full(200)) return FULL;
        for (int k = 0; k < 4; k++) {
            for (int n = 0; n < a.nodes.size(); n++) {
                int[] best = a.best(n);
                if (a.bands() != best[1]) {
                    a.nodes.get(n)[0] = best[0];
                }
            }
        }
        return a.bands();
    }

    public int would(int n, int what) {
        if (out(what, 0, 18)) return NONE;
        if (out(n, 0, 99)) return BAD;
        if (!a.started) return STATE;
        return full(n) ? FULL : a.after(n).told(what);
    }

    public int turns(int signal, int n) {
        if (!isSignal(signal)) return NONE;
        if (out(n, 0, 99)) return BAD;
        if (!a.started) return STATE;
        if (full(n)) return FULL;
        All b = a;
        for (int k = 0; k < n; k++) {
            b = b.after(1);
            if (b.signals.get(signal).green) return b.second - 1;
        }
        return -5;
    }

    public int best(int n, int what) {
        if (out(what, 0, 1)) return NONE;
        if (out(n, 0, 60)) return BAD;
        if (!a.started) return STATE;
        if (full(9 * n)) return FULL;
        int[] best = {0, Integer.MAX_VALUE};
        for (int g = 1; g <= 9; g++) {
            int waited = a.withGap(g).after(n).waited;
            if (waited < best[1]) {
                best = new int[] {g, waited};
            }
        }
        return best[what];
    }

    public int note(int second, int set) {
        if (second == -1) {
            a.notes.clear();
            return 0;
        }
        if (out(second, 0, 99999) || out(set, 0, 255)) return BAD;
        if (a.notes.size() == 5) return FULL;
        a.notes.add(new int[] {second, set});
        return a.notes.size();
    }

    public int fits(int what) {
        if (out(what, 0, 1)) return NONE;
        if (!a.started) return STATE;
        if (full(540)) return FULL;
        List<Integer> gaps = new ArrayList<>();
        for (int g = 1; g <= 9; g++) {
            boolean good = true;
            for (int[] note : a.notes) {
                int n = note[0] - a.second;
                good &= n >= 0 && n < 60 && a.withGap(g).after(n + 1).greenBits() == note[1];
            }
            if (good) {
                gaps.add(g);
            }
        }
        return what == 0 ? gaps.size() : gaps.isEmpty() ? -5 : gaps.get(0);
    }

    private int dayOf(int seed, int n) {
        All b = a.copy();
        b.seed = seed;
        return b.after(n).waited - a.waited;
    }

    public int day(int seed, int n) {
        if (out(n, 0, 99)) return BAD;
        if (!a.started) return STATE;
        return full(n) ? FULL : dayOf(seed, n);
    }

    private static long lowest(long above, long below, int part) {
        long g = java.math.BigInteger.valueOf(above).gcd(java.math.BigInteger.valueOf(below)).longValue();
        return (part == 0 ? above : below) / g;
    }

    public long chance(int seed, int n, int m, int k, int part) {
        if (out(n, 0, 99) || out(m, 1, 4) || out(k, 0, 99999) || out(part, 0, 1) || !a.started || full(m * n)) return NO;
        int good = 0;
        for (int j = 0; j < m; j++) {
            good += dayOf(seed + j, n) <= k ? 1 : 0;
        }
        return lowest(good, m, part);
    }

    public long mean(int part) {
        return out(part, 0, 1) || a.served == 0 ? NO : lowest(a.waited, a.served, part);
    }

    public int plan(int what, int n) {
        if (what == -1) {
            a.plan.clear();
            return 0;
        }
        if (out(what, 0, 3)) return NONE;
        if (what == 0 && out(n, 0, 99) || (what == 1 || what == 3) && out(n, 0, 7)) return BAD;
        if (a.plan.size() == 8) return FULL;
        a.plan.add(new int[] {what, n});
        return a.plan.size();
    }

    public int ends(int what) {
        if (out(what, 0, 1)) return NONE;
        if (!a.started) return STATE;
        if (full(a.plan.stream().mapToInt(r -> r[0] == 0 ? r[1] : 0).sum())) return FULL;
        All b = a.copy();
        for (int[] row : a.plan) {
            if (row[0] == 0) {
                b = b.after(row[1]);
            } else if (row[0] == 1) {
                if (b.emergency == null && b.firstPhaseWith(row[1]) != null) {
                    b.emergency = row[1];
                }
            } else if (row[0] == 2) {
                b.emergency = null;
            } else if (isSignal(row[1])) {
                b.signals.get(row[1]).queue = 0;
            }
        }
        return what == 0 ? b.waited : b.served;
    }

    public int judge(int tape, int i) {
        if (out(tape, 0, 5)) return NONE;
        if (tapes[tape] != null && sorts[tape] != 0) return CAST;
        for (int s = 0; s < a.signals.size(); s++) {
            if (tapes[tape] == null || i < 0 || (long) i + s >= tapes[tape].length) return 100 + s;
            if (tapes[tape][i + s] != a.light(s)) return s;
        }
        return -5;
    }

    public int image() {
        image = a.copy();
        return a.second;
    }

    public int undo() {
        if (image == null) return STATE;
        a = image.copy();
        return a.second;
    }

    public int count(int what) {
        if (out(what, 0, 7)) return BAD;
        return new int[] {text.length(), a.notes.size(), a.plan.size(), a.greens.size(), a.nodes.size(), counted,
            a.record.size(), a.round}[what];
    }

    public int tape(int tape, int sort, int n) {
        if (out(tape, 0, 5)) return NONE;
        if (sort == -1) {
            tapes[tape] = null;
            return 1;
        }
        if (out(sort, 0, 4) || n > 60) return BAD;
        if (n < 0) return SIZE;
        tapes[tape] = new long[n];
        sorts[tape] = sort;
        return 1;
    }

    public int item(int tape, int i, long v) {
        if (out(tape, 0, 5)) return NONE;
        if (tapes[tape] == null) return NOTHING;
        if (out(i, 0, tapes[tape].length - 1)) return PLACE;
        int bits = new int[] {56, 48, 32, 0, 0}[sorts[tape]];
        tapes[tape][i] = sorts[tape] == 4 ? (v == 0 ? 0 : 1) : v << bits >> bits;
        return 1;
    }

    public long peek(int tape, int i) {
        if (out(tape, 0, 5) || tapes[tape] == null || out(i, 0, tapes[tape].length - 1)) return NO;
        return tapes[tape][i];
    }

    public int shift(int tape, int i, int other, int j, int n) {
        if (out(tape, 0, 5) || out(other, 0, 5)) return NONE;
        if (tapes[tape] == null || tapes[other] == null) return NOTHING;
        if (sorts[tape] != sorts[other]) return CAST;
        if (n < 0 || i < 0 || j < 0 || (long) i + n > tapes[tape].length || (long) j + n > tapes[other].length) {
            return PLACE;
        }
        long[] before = tapes[tape].clone();
        for (int k = 0; k < n; k++) {
            tapes[other][j + k] = before[i + k];
        }
        return n;
    }
}
