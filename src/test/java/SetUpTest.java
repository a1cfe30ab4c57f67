/** Promises 1 to 9: what is set up. */
public final class SetUpTest {
    private static final int NONE = -1, BAD = -2, STATE = -3, FULL = -4;
    private static final Due due = new Due("SetUpTest");

    public static void main(String[] args) {
        newObject();
        signal();
        goes();
        tell();
        feed();
        read();
        faults();
        safety();
        phase();
        start();
        due.end();
    }

    private static void newObject() {
        due.promise(1, "a new object");
        SafeClears x = new SafeClears();
        int[] facts = {0, -5, -5, -5, 0, 0, 0, 0, 0, 0, 1, 1, 0, 0, 0, -5, 0, 0, 0};
        for (int what = 0; what < facts.length; what++) {
            due.is("told(" + what + ")", x.told(what), facts[what]);
        }
        int[] counts = {0, 0, 0, 0, 0, 0, 0, 30};
        for (int what = 0; what < counts.length; what++) {
            due.is("count(" + what + ")", x.count(what), counts[what]);
        }
        due.is("pass(1), as it is set up", x.pass(1), STATE);
        due.is("undo(), without an image", x.undo(), STATE);
        due.is("peek(0, 0)", x.peek(0, 0), SafeClears.NO);
    }

    private static void signal() {
        due.promise(2, "signal");
        SafeClears x = new SafeClears();
        due.is("signal(0, 0)", x.signal(0, 0), 0);
        due.is("signal(3, 63)", x.signal(3, 63), 1);
        int[] facts = {3, 5, 40, 3, 0, 0, 0, -5, -5, -5, 0, 1, 0, 0};
        for (int what = 0; what < facts.length; what++) {
            due.is("of(1, " + what + ")", x.of(1, what), facts[what]);
        }
        due.is("way(1, 0)", x.way(1, 0), 63);
        due.is("signal(-1, 0)", x.signal(-1, 0), BAD);
        due.is("signal(4, 0)", x.signal(4, 0), BAD);
        due.is("signal(0, -1)", x.signal(0, -1), BAD);
        due.is("signal(0, 64)", x.signal(0, 64), BAD);
        for (int s = 2; s < 8; s++) {
            due.is("signal(1, 5)", x.signal(1, 5), s);
        }
        due.is("a ninth", x.signal(1, 5), FULL);
        due.is("a ninth, BAD ahead of FULL", x.signal(1, 64), BAD);
        x.phase(1, 0);
        due.is("a ninth, behind a phase", x.signal(1, 5), FULL);
        x.start();
        due.is("STATE ahead of FULL", x.signal(1, 5), STATE);
        due.is("BAD ahead of STATE", x.signal(9, 5), BAD);
        due.is("how many", x.told(16), 8);
        SafeClears y = new SafeClears();
        y.signal(0, 0);
        y.phase(1, 0);
        due.is("ahead of start", y.signal(2, 7), 1);
    }

    private static void goes() {
        due.promise(3, "goes");
        SafeClears x = new SafeClears();
        due.is("goes(0, 1), no signal", x.goes(0, 1), NONE);
        x.signal(0, 0);
        for (int cell = 1; cell < 8; cell++) {
            due.is("goes(0, " + cell + ")", x.goes(0, cell), cell + 1);
        }
        due.is("way(0, 7)", x.way(0, 7), 7);
        due.is("a ninth cell", x.goes(0, 8), FULL);
        due.is("there already, ahead of FULL", x.goes(0, 7), BAD);
        due.is("goes(0, 64)", x.goes(0, 64), BAD);
        due.is("goes(0, -1)", x.goes(0, -1), BAD);
        due.is("goes(-1, 64)", x.goes(-1, 64), NONE);
        due.is("goes(1, 0)", x.goes(1, 0), NONE);
        x.phase(1, 0);
        due.is("there are phases, ahead of FULL", x.goes(0, 8), STATE);
        due.is("BAD ahead of STATE", x.goes(0, 0), BAD);
        SafeClears y = new SafeClears();
        y.signal(0, 0);
        y.signal(0, 1);
        due.is("they don't meet", y.clear(0, 1), -5);
        y.goes(1, 0);
        due.is("they meet", y.clear(0, 1), 4);
    }

    private static void tell() {
        due.promise(4, "tell");
        SafeClears x = new SafeClears();
        due.is("no signal", x.tell(0, 0, 5), NONE);
        x.signal(0, 0);
        int[] was = {5, 40, 3, 0};
        int[] good = {20, 20, 9, 60};
        int[] low = {1, 20, 1, 0};
        int[] high = {20, 99, 9, 60};
        for (int what = 0; what < 4; what++) {
            due.is("what it was " + what, x.tell(0, what, good[what]), was[what]);
        }
        for (int what = 0; what < 4; what++) {
            due.is("it became " + what, x.of(0, what + 1), good[what]);
            due.is("too low " + what, x.tell(0, what, low[what] - 1), BAD);
            due.is("too high " + what, x.tell(0, what, high[what] + 1), BAD);
            due.is("BAD changes nothing " + what, x.of(0, what + 1), good[what]);
        }
        due.is("lowest gap", x.tell(0, 2, 1), 9);
        due.is("lowest rate", x.tell(0, 3, 0), 60);
        due.is("most", x.tell(0, 1, 99), 20);
        due.is("least", x.tell(0, 0, 1), 20);
        due.is("most as the least", x.tell(0, 1, 1), 99);
        due.is("least above most", x.tell(0, 0, 2), BAD);
        due.is("what -1", x.tell(0, -1, 5), NONE);
        due.is("what 4, NONE ahead of BAD", x.tell(0, 4, -5), NONE);
        due.is("signal 1", x.tell(1, 0, 5), NONE);
        x.phase(1, 0);
        x.start();
        due.is("as it is started", x.tell(0, 3, 7), 0);
    }

    private static void feed() {
        due.promise(5, "feed");
        SafeClears x = new SafeClears();
        due.is("feed(-1)", x.feed(-1), BAD);
        due.is("feed(128)", x.feed(128), BAD);
        due.is("feed(0)", x.feed(0), 1);
        for (int k = 2; k <= 100; k++) {
            due.is("feed(127)", x.feed(127), k);
        }
        due.is("the 101st", x.feed(1), FULL);
        due.is("BAD ahead of FULL", x.feed(128), BAD);
        due.is("count(0)", x.count(0), 100);
    }

    private static int read(String text) {
        SafeClears x = new SafeClears();
        Due.feed(x, text);
        return x.read();
    }

    private static void read() {
        due.promise(6, "read");
        SafeClears x = new SafeClears();
        x.signal(0, 9);
        Due.feed(x, "bh8a1*20/20~9@60;ca1b1c1d1e1f1g1h1/5@0;tb2*07/09;wa2*1/1~1@5");
        due.is("four clauses", x.read(), 4);
        int[][] facts = {{3, 20, 20, 9, 60, 2}, {0, 5, 5, 3, 0, 8}, {2, 7, 9, 3, 0, 1}, {1, 1, 1, 1, 5, 1}};
        int[] whats = {0, 1, 2, 3, 4, 11};
        for (int s = 0; s < 4; s++) {
            for (int k = 0; k < 6; k++) {
                due.is("of(" + (s + 1) + ", " + whats[k] + ")", x.of(s + 1, whats[k]), facts[s][k]);
            }
        }
        due.is("way(1, 0)", x.way(1, 0), 63);
        due.is("way(1, 1)", x.way(1, 1), 0);
        due.is("way(3, 0)", x.way(3, 0), 9);
        due.is("they meet at once", x.narrow(1, 2), 0);
        due.is("the text is empty", x.count(0), 0);
        Due.feed(x, "ca1;ca2;ca3;ca4");
        due.is("no room for all", x.read(), FULL);
        due.is("none came", x.told(16), 5);
        due.is("the text is empty behind FULL", x.count(0), 0);
        Due.feed(x, "ca1;ca2;ca3");
        due.is("room for three", x.read(), 3);
        Due.feed(x, "ca1;");
        due.is("a fault ahead of FULL", x.read(), -14);
        due.is("the text is empty behind a fault", x.count(0), 0);
        x.phase(1, 0);
        x.start();
        Due.feed(x, "ca");
        due.is("STATE ahead of all", x.read(), STATE);
        due.is("the text is empty behind STATE", x.count(0), 0);
    }

    private static void faults() {
        String[] texts = {"", "c", "x", "ca", "ca9", "ca0", "ci1", "c1", "ca1;", "ca1;;", "ca1a1", "ca1b2a1",
            "ca1*", "ca1*0", "ca1*00", "ca1*21", "ca1*211", "ca1*200", "ca1*x", "ca1/4", "ca1/05", "ca1/100", "ca1*005", "ca1/050", "ca1@005", "ca1~05",
            "ca1*9/8", "ca1*9/08", "ca1*9/80~", "ca1~0", "ca1~10", "ca1~", "ca1@61", "ca1@600", "ca1@", "ca1@5~3",
            "ca1~3/9", "ca1/9*5", "ca1*5*5", "ca1 ", " ca1", "ca1b1c1d1e1f1g1h1a2", "ca1b1c1d1e1f1g1h1x",
            "ca1;ca1;ca1;ca1;", "ca1;ca1;ca1;ca1;ca1", "ca1;x", "Ca1", "ca1,ca1", "ca1@60;", "ca1;wa1*5;ba1a1"};
        int[] places = {0, 1, 0, 2, 2, 2, 1, 1, 4, 4, 4, 6,
            4, 4, 5, 5, 5, 6, 4, 4, -1, 6, 5, 6, 6, 4,
            6, 7, 9, 4, 5, 4, 5, 6, 4, 5,
            5, 5, 5, 3, 0, 17, 17,
            15, 15, 4, 0, 3, 7, 14};
        for (int k = 0; k < texts.length; k++) {
            due.is("read '" + texts[k] + "'", read(texts[k]), places[k] < 0 ? 1 : -10 - places[k]);
        }
    }

    private static void safety() {
        due.promise(7, "safety");
        SafeClears x = Due.twoThatMeet(0, 0);
        due.is("safety(5)", x.safety(5), 1);
        due.is("clear with 5", x.clear(0, 1), 9);
        due.is("safety(0)", x.safety(0), 5);
        due.is("clear with 0", x.clear(0, 1), 4);
        due.is("safety(-1)", x.safety(-1), BAD);
        due.is("safety(6)", x.safety(6), BAD);
        due.is("told(11)", x.told(11), 0);
        x.start();
        due.is("safety(1), started", x.safety(1), STATE);
        due.is("BAD ahead of STATE", x.safety(6), BAD);
        due.is("it stays", x.told(11), 0);
    }

    private static void phase() {
        due.promise(8, "phase");
        SafeClears x = new SafeClears();
        due.is("no signals", x.phase(1, 0), BAD);
        x.signal(0, 0);
        x.signal(0, 0);
        x.signal(0, 1);
        due.is("phase(5, 239)", x.phase(5, 239), 0);
        due.is("phaseOf(0, 0)", x.phaseOf(0, 0), 5);
        due.is("phaseOf(0, 1)", x.phaseOf(0, 1), 239);
        due.is("two meet", x.phase(3, 0), STATE);
        due.is("two of three meet", x.phase(7, 0), STATE);
        due.is("none", x.phase(0, 0), BAD);
        due.is("others", x.phase(8, 0), BAD);
        due.is("phase(-1, 0)", x.phase(-1, 0), BAD);
        due.is("force 240", x.phase(1, 240), BAD);
        due.is("force -1, BAD ahead of STATE", x.phase(3, -1), BAD);
        for (int p = 1; p < 6; p++) {
            due.is("phase(2, 0)", x.phase(2, 0), p);
        }
        due.is("a seventh", x.phase(2, 0), FULL);
        due.is("STATE ahead of FULL", x.phase(3, 0), STATE);
        x.start();
        due.is("started", x.phase(2, 0), STATE);
        due.is("BAD ahead of STATE", x.phase(0, 0), BAD);
        due.is("how many", x.told(17), 6);
    }

    private static void start() {
        due.promise(9, "start");
        SafeClears x = new SafeClears();
        due.is("no phases", x.start(), STATE);
        x.signal(0, 0);
        due.is("no phases, a signal", x.start(), STATE);
        x.phase(1, 0);
        x.phase(1, 0);
        x.come(0, 4);
        due.is("start()", x.start(), 2);
        due.is("already", x.start(), STATE);
        due.is("phase 0 is on", x.told(1), 0);
        due.is("it came on once", x.phaseOf(0, 2), 1);
        due.is("the other one did not", x.phaseOf(1, 2), 0);
        due.is("second", x.told(0), 0);
        due.is("none is green", x.told(7), 0);
        due.is("red", x.of(0, 6), 0);
        due.is("the queue stays", x.of(0, 5), 4);
    }
}
