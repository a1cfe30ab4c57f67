/** Promises 10 to 15: what goes on. */
public final class GoesOnTest {
    private static final int NONE = -1, BAD = -2, STATE = -3, FULL = -4;
    private static final Due due = new Due("GoesOnTest");

    public static void main(String[] args) {
        cycle();
        come();
        seed();
        emergency();
        over();
        pass();
        going();
        changeByGap();
        changeByMost();
        changeByLeast();
        whichPhaseIsNext();
        heldAndForced();
        cutAndGivenBack();
        tooFreshToCut();
        turning();
        budget();
        due.end();
    }

    private static SafeClears one(int kind) {
        SafeClears x = new SafeClears();
        x.signal(kind, 0);
        x.phase(1, 0);
        x.start();
        return x;
    }

    private static void cycle() {
        due.promise(10, "cycle");
        SafeClears x = new SafeClears();
        due.is("cycle(20, 19, 20)", x.cycle(20, 19, 20), 0);
        due.is("told(12)", x.told(12), 20);
        due.is("told(13)", x.told(13), 19);
        due.is("told(14)", x.told(14), 20);
        due.is("local, below 0 brought back", x.told(15), 1);
        int[][] bad = {{19, 0, 1}, {241, 0, 1}, {-1, 0, 1}, {40, -1, 1}, {40, 40, 1}, {40, 0, 0}, {40, 0, 41}};
        for (int[] v : bad) {
            due.is("cycle(" + v[0] + ", " + v[1] + ", " + v[2] + ")", x.cycle(v[0], v[1], v[2]), BAD);
        }
        due.is("BAD changes nothing", x.told(12), 20);
        due.is("cycle(240, 0, 1)", x.cycle(240, 0, 1), 20);
        due.is("cycle(0, 999, -9)", x.cycle(0, 999, -9), 240);
        due.is("offset is 0", x.told(13), 0);
        due.is("split is 0", x.told(14), 0);
        due.is("no local", x.told(15), -5);
    }

    private static void come() {
        due.promise(11, "come");
        SafeClears x = new SafeClears();
        due.is("no signal", x.come(0, 1), NONE);
        x.signal(0, 0);
        due.is("come(0, 20)", x.come(0, 20), 20);
        due.is("come(0, 1)", x.come(0, 1), 21);
        due.is("come(0, 0)", x.come(0, 0), BAD);
        due.is("come(0, 21)", x.come(0, 21), BAD);
        due.is("NONE ahead of BAD", x.come(1, 0), NONE);
        due.is("come(-1, 1)", x.come(-1, 1), NONE);
        x.come(0, 20);
        x.come(0, 20);
        x.come(0, 20);
        due.is("81 and 20", x.come(0, 20), 99);
        due.is("lost", x.told(6), 2);
        due.is("99 and 3", x.come(0, 3), 99);
        due.is("lost", x.told(6), 5);
        due.is("not seen ahead of a second", x.of(0, 9), -5);
        due.is("all queues", x.told(18), 99);
    }

    private static void seed() {
        due.promise(12, "seed");
        SafeClears x = one(0);
        due.is("seed(-7)", x.seed(-7), 1);
        due.is("seed(1)", x.seed(1), -7);
        x.pass(5);
        due.is("no draws by rate 0", x.told(10), 1);
        x.tell(0, 3, 7);
        x.pass(1);
        due.is("one draw", x.told(10), 1103527590);
        due.is("the first draw by seed 1 is 7, not below 7", x.of(0, 9), -5);
        x.seed(1);
        x.tell(0, 3, 8);
        x.pass(1);
        due.is("it is below 8", x.of(0, 9), 6);
        x.seed(Integer.MIN_VALUE);
        x.pass(1);
        due.is("an int wraps around", x.told(10), Integer.MIN_VALUE * 1103515245 + 12345);
    }

    private static void emergency() {
        due.promise(13, "emergency");
        SafeClears x = new SafeClears();
        due.is("no signal", x.emergency(0), NONE);
        x.signal(0, 0);
        x.signal(0, 1);
        x.signal(0, 2);
        x.phase(1, 0);
        x.phase(3, 0);
        due.is("not started", x.emergency(0), STATE);
        x.start();
        due.is("no phase has it", x.emergency(2), STATE);
        due.is("emergency(-1)", x.emergency(-1), NONE);
        due.is("emergency(3)", x.emergency(3), NONE);
        due.is("emergency(1)", x.emergency(1), 1);
        due.is("there is one", x.emergency(0), STATE);
        due.is("NONE ahead of STATE", x.emergency(3), NONE);
        due.is("told(3)", x.told(3), 1);
        x.over();
        due.is("the first of two phases", x.emergency(0), 0);
    }

    private static void over() {
        due.promise(14, "over");
        SafeClears x = one(0);
        due.is("there's none", x.over(), STATE);
        x.emergency(0);
        due.is("over()", x.over(), 0);
        due.is("told(3)", x.told(3), -5);
        due.is("there's none any more", x.over(), STATE);
    }

    private static void pass() {
        due.promise(15, "pass");
        SafeClears x = one(3);
        due.is("pass(-1)", x.pass(-1), BAD);
        due.is("pass(100)", x.pass(100), BAD);
        due.is("pass(0)", x.pass(0), 0);
        due.is("second", x.told(0), 0);
        x.come(0, 20);
        due.is("pass(99), one bike a second", x.pass(99), 20);
        due.is("second", x.told(0), 99);
        due.is("waited 19 and 18 and .. 1", x.told(4), 190);
        SafeClears y = new SafeClears();
        due.is("BAD ahead of STATE", y.pass(100), BAD);
        due.is("not started", y.pass(0), STATE);
        SafeClears z = one(0);
        z.tell(0, 3, 60);
        z.pass(4);
        due.is("by rate 60 one comes each second; of 4 two go", z.of(0, 5), 2);
        z.seed(5);
        for (int k = 0; k < 2; k++) {
            z.pass(99);
        }
        due.is("of those who come when it is 99 some are lost", z.told(6), 202 - z.told(5) - z.told(18));
        due.is("the queue", z.of(0, 5), 99);
    }

    private static void going() {
        int[][] goes = {{1, 0, 1, 0, 1, 0}, {20, 0, 0, 0, 0, 0}, {1, 0, 0, 0, 1, 0}, {1, 1, 1, 1, 1, 1}};
        for (int kind = 0; kind < 4; kind++) {
            SafeClears x = one(kind);
            x.come(0, 20);
            for (int k = 0; k < 6; k++) {
                due.is("kind " + kind + ", green for " + k, x.pass(1), goes[kind][k]);
            }
        }
    }

    private static void changeByGap() {
        SafeClears x = Due.twoThatMeet(0, 0);
        x.start();
        x.come(1, 1);
        due.is("seconds 0 to 4: green for less than its least", x.pass(5), 0);
        x.come(0, 2);
        due.is("5 to 10: seen in 8 at last, so the gap of 3 isn't over", x.pass(6), 2);
        due.is("the phase", x.told(1), 0);
        due.is("called", x.told(9), 2);
        due.is("seen last", x.of(0, 9), 8);
        x.pass(1);
        due.is("11: the gap is over", x.told(1), 1);
        due.is("end", x.of(0, 8), 11);
        due.is("amber to second 13", x.told(8), 1);
        x.pass(1);
        due.is("amber in 13", x.told(8), 1);
        x.pass(1);
        due.is("red in 14", x.told(8), 0);
        due.is("clear of 5: none is green in 15", x.pass(2), 0);
        due.is("none is green", x.told(7), 0);
        due.is("16: it becomes so, and one goes", x.pass(1), 1);
        due.is("green", x.told(7), 2);
        due.is("began", x.of(1, 7), 16);
        due.is("it came on once", x.phaseOf(1, 2), 1);
        SafeClears y = Due.twoThatMeet(0, 0);
        y.start();
        y.come(1, 1);
        y.pass(5);
        due.is("never seen, but its least isn't over", y.told(1), 0);
        y.pass(1);
        due.is("never seen, its least over in 5", y.told(1), 1);
        SafeClears z = Due.twoThatMeet(0, 0);
        z.start();
        z.pass(60);
        due.is("none is called: it stays", z.told(1), 0);
        due.is("and is green", z.told(7), 1);
    }

    private static void changeByMost() {
        SafeClears x = Due.twoThatMeet(3, 3);
        x.tell(0, 1, 7);
        x.tell(0, 3, 60);
        x.start();
        x.come(1, 1);
        x.pass(7);
        due.is("green for less than 7", x.told(1), 0);
        x.pass(1);
        due.is("green for its most of 7", x.told(1), 1);
        due.is("the end", x.of(0, 8), 7);
    }

    private static void changeByLeast() {
        SafeClears x = new SafeClears();
        x.signal(0, 0);
        x.signal(0, 1);
        x.signal(0, 0);
        x.tell(0, 0, 2);
        x.tell(1, 0, 9);
        x.phase(3, 0);
        x.phase(4, 0);
        x.start();
        x.come(2, 1);
        x.pass(9);
        due.is("one's least isn't over", x.told(1), 0);
        x.pass(1);
        due.is("the other one's is in 9", x.told(1), 1);
        due.is("both ended, by numbers", x.recorded(0, 0), 1);
        due.is("both ended, by numbers", x.recorded(1, 0), 0);
    }

    private static void whichPhaseIsNext() {
        SafeClears x = new SafeClears();
        for (int s = 0; s < 4; s++) {
            x.signal(3, s);
            x.tell(s, 0, 1);
            x.tell(s, 2, 1);
            x.phase(1 << s, 0);
        }
        x.start();
        x.pass(1);
        x.come(3, 1);
        x.come(2, 1);
        x.pass(1);
        due.is("2 is ahead of 3", x.told(1), 2);
        x.come(0, 1);
        x.come(1, 1);
        x.pass(1);
        due.is("behind 2 comes 3", x.told(1), 3);
        x.pass(1);
        due.is("behind the last one comes 0", x.told(1), 0);
        x.pass(1);
        due.is("behind 0 comes 1", x.told(1), 1);
        x.pass(9);
        due.is("none is called", x.told(9), 0);
        due.is("it stays", x.told(1), 1);
    }

    private static void heldAndForced() {
        SafeClears x = new SafeClears();
        x.signal(3, 0);
        x.signal(3, 0);
        x.phase(1, 0);
        x.phase(2, 15);
        x.start();
        x.tell(1, 3, 60);
        x.cycle(20, 0, 10);
        x.pass(10);
        due.is("held while local is below 10", x.told(1), 0);
        x.pass(1);
        due.is("changed in 10", x.told(1), 1);
        due.is("phase 0 is called by the cycle", x.told(9), 1);
        due.is("and that is told of it", x.phaseOf(0, 3), 1);
        x.pass(8);
        due.is("green from 14: in 18 its least isn't over", x.told(1), 1);
        x.pass(1);
        due.is("in 19 it is, and it is forced from local 15 on", x.told(1), 0);
        due.is("it ended in 19", x.recorded(0, 2), 19);
        SafeClears y = new SafeClears();
        y.signal(3, 0);
        y.signal(3, 0);
        y.phase(1, 0);
        y.phase(2, 15);
        y.tell(1, 3, 60);
        y.cycle(40, 30, 8);
        y.start();
        y.pass(5);
        due.is("local 10 on: not held, but its least of 5 isn't over", y.told(1), 0);
        y.pass(1);
        due.is("in 5", y.told(1), 1);
        due.is("local", y.told(15), 16);
        y.pass(8);
        due.is("green from 9; its least is over in 14 only", y.told(1), 1);
        y.pass(1);
        due.is("forced in 14", y.told(1), 0);
        SafeClears z = new SafeClears();
        z.signal(3, 0);
        z.signal(3, 0);
        z.phase(1, 0);
        z.phase(2, 200);
        z.tell(1, 3, 60);
        z.cycle(20, 0, 1);
        z.start();
        z.pass(9 + 39);
        due.is("a force that local never reaches: to its most", z.told(1), 1);
        z.pass(2);
        due.is("green from 9 on, its most is over in 49", z.told(1), 0);
    }

    private static void cutAndGivenBack() {
        SafeClears x = new SafeClears();
        for (int s = 0; s < 4; s++) {
            x.signal(0, 0);
            x.phase(1 << s, 0);
        }
        x.start();
        x.pass(5);
        x.emergency(2);
        x.pass(1);
        due.is("to its phase", x.told(1), 2);
        due.is("the first one is cut", x.told(2), 0);
        x.over();
        x.emergency(3);
        x.pass(20);
        due.is("another emergency", x.told(1), 3);
        due.is("the cut one stays", x.told(2), 0);
        x.come(0, 1);
        x.come(1, 1);
        x.pass(30);
        due.is("an emergency's phase does not change, though called and long green", x.told(1), 3);
        x.over();
        x.pass(1);
        due.is("to the one that is cut", x.told(1), 0);
        due.is("none is cut then", x.told(2), -5);
        x.pass(30);
        due.is("then on", x.told(1), 1);
        x.come(3, 1);
        x.come(2, 1);
        x.emergency(0);
        x.pass(1);
        due.is("cut", x.told(2), 1);
        x.over();
        x.pass(12);
        due.is("the cut one isn't called: the first one behind that is", x.told(1), 2);
        due.is("none is cut then, too", x.told(2), -5);
    }

    private static void tooFreshToCut() {
        SafeClears x = Due.twoThatMeet(0, 0);
        x.start();
        x.emergency(1);
        x.pass(1);
        due.is("in 0 none is green yet: cut at once", x.told(1), 1);
        due.is("cut", x.told(2), 0);
        SafeClears y = Due.twoThatMeet(0, 0);
        y.start();
        y.pass(1);
        y.emergency(1);
        y.pass(2);
        due.is("green for 2, below half of 5, rounded up", y.told(1), 0);
        y.pass(1);
        due.is("green for 3", y.told(1), 1);
        SafeClears z = Due.twoThatMeet(0, 0);
        z.start();
        z.emergency(0);
        z.come(1, 5);
        z.pass(90);
        due.is("an emergency of the phase that is on holds it", z.told(1), 0);
        due.is("nothing is cut", z.told(2), -5);
    }

    private static void turning() {
        SafeClears x = new SafeClears();
        x.signal(0, 0);
        x.signal(0, 0);
        x.signal(0, 8);
        x.phase(1, 0);
        x.phase(6, 0);
        x.start();
        x.come(2, 1);
        x.pass(6);
        due.is("in 5 who meets none turns at once", x.told(7), 4);
        x.pass(4);
        due.is("in 9 the other one waits yet", x.told(7), 4);
        x.pass(1);
        due.is("in 10 it turns", x.told(7), 6);
        due.is("began", x.of(1, 7), 10);
        due.is("began", x.of(2, 7), 5);
        due.is("greens begun", x.of(1, 13), 1);
        SafeClears y = new SafeClears();
        y.signal(0, 0);
        y.signal(3, 1);
        y.signal(3, 1);
        y.phase(3, 0);
        y.phase(5, 0);
        y.start();
        y.come(2, 1);
        y.pass(7);
        due.is("who is in both phases stays green", y.of(0, 13), 1);
        due.is("only the other one ended", y.count(6), 1);
        due.is("it did", y.recorded(0, 0), 1);
    }

    private static void budget() {
        SafeClears x = one(0);
        for (int k = 0; k < 121; k++) {
            x.pass(99);
        }
        due.is("11979 counted", x.count(5), 11979);
        due.is("22 more", x.pass(22), FULL);
        due.is("it isn't counted", x.count(5), 11979);
        due.is("nothing passed", x.told(0), 11979);
        due.is("BAD ahead of FULL", x.pass(100), BAD);
        due.is("21 more", x.pass(21), 0);
        due.is("12000 counted", x.count(5), 12000);
        due.is("no more", x.pass(1), FULL);
        due.is("none are no more", x.pass(0), 0);
        x.image();
        x.undo();
        due.is("an image doesn't change it", x.count(5), 12000);
    }
}
