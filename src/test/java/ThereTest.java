/** Promises 16 to 23: what is there. */
public final class ThereTest {
    private static final int NONE = -1, BAD = -2, CAST = -12;
    private static final Due due = new Due("ThereTest");

    public static void main(String[] args) {
        told();
        of();
        way();
        clear();
        narrow();
        table();
        phaseOf();
        taken();
        due.end();
    }

    private static void told() {
        due.promise(16, "told");
        SafeClears x = Due.twoThatMeet(0, 2);
        x.come(1, 1);
        due.is("none called, not started", x.told(9), 0);
        x.start();
        due.is("phase 1 is called, started", x.told(9), 2);
        x.cycle(30, 4, 2);
        x.come(0, 3);
        due.is("called, but on: not so", x.told(9), 2);
        x.pass(1);
        due.is("-1", x.told(-1), NONE);
        due.is("19", x.told(19), NONE);
        int[] facts = {1, 0, -5, -5, 3, 1, 0, 1, 0, 2, 1, 1, 30, 4, 2, 27, 2, 2, 3};
        for (int what = 0; what < facts.length; what++) {
            due.is("told(" + what + ")", x.told(what), facts[what]);
        }
        x.emergency(1);
        x.pass(3);
        int[] later = {4, 1, 0, 1, 3 + 3 + 2 + 2, 2, 0, 0, 1, 1};
        for (int what = 0; what < later.length; what++) {
            due.is("later told(" + what + ")", x.told(what), later[what]);
        }
    }

    private static void of() {
        due.promise(17, "of");
        SafeClears x = Due.twoThatMeet(2, 3);
        x.start();
        due.is("no such signal", x.of(2, 0), NONE);
        due.is("signal -1", x.of(-1, 0), NONE);
        due.is("what -1", x.of(0, -1), NONE);
        due.is("what 14", x.of(0, 14), NONE);
        x.come(0, 2);
        x.pass(1);
        x.come(1, 9);
        x.pass(8);
        int[] first = {2, 5, 40, 3, 0, 0, 1, 0, 7, 4, 2, 1, 2, 1};
        int[] second = {3, 5, 40, 3, 0, 9, 0, -5, -5, 8, 0, 1, 1, 0};
        for (int what = 0; what < 14; what++) {
            due.is("of(0, " + what + ")", x.of(0, what), first[what]);
            due.is("of(1, " + what + ")", x.of(1, what), second[what]);
        }
        x.pass(5);
        due.is("amber of a tram: 4, so it is red in 11", x.of(0, 6), 0);
        due.is("clear of tram to bikes is 7: green from 14 not yet", x.of(1, 6), 0);
        x.pass(1);
        due.is("green", x.of(1, 6), 2);
    }

    private static void way() {
        due.promise(18, "way");
        SafeClears x = new SafeClears();
        due.is("no signal", x.way(0, 0), NONE);
        x.signal(0, 12);
        x.goes(0, 60);
        due.is("way(0, 0)", x.way(0, 0), 12);
        due.is("way(0, 1)", x.way(0, 1), 60);
        due.is("way(0, 2)", x.way(0, 2), BAD);
        due.is("way(0, -1)", x.way(0, -1), BAD);
        due.is("NONE ahead of BAD", x.way(1, -1), NONE);
        due.is("way(-1, 0)", x.way(-1, 0), NONE);
    }

    /** Cars over a1 b1 c1, walk over c1 b1, tram over a1, walk over h8 .. b8 a1, bikes over d1. */
    private static SafeClears five() {
        SafeClears x = new SafeClears();
        Due.feed(x, "ca1b1c1;wc1b1;ta1;wh8g8f8e8d8c8b8a1");
        x.read();
        x.signal(3, 3);
        return x;
    }

    private static void clear() {
        due.promise(19, "clear");
        SafeClears x = five();
        due.is("cars to walk: at c1 3 and 3", x.clear(0, 1), 7);
        due.is("walk to cars: at b1 2 and 6 less 1", x.clear(1, 0), 8);
        due.is("cars to tram", x.clear(0, 2), 5);
        due.is("tram to cars", x.clear(2, 0), 7);
        due.is("cars to a long walk: its amber at least", x.clear(0, 3), 4);
        due.is("a long walk to cars: 2 and 24", x.clear(3, 0), 27);
        due.is("tram to a long walk", x.clear(2, 3), 5);
        due.is("they don't meet", x.clear(0, 4), -5);
        due.is("they are one", x.clear(0, 0), -5);
        due.is("clear(0, 5)", x.clear(0, 5), NONE);
        due.is("clear(5, 0)", x.clear(5, 0), NONE);
        due.is("clear(-1, 0)", x.clear(-1, 0), NONE);
        due.is("clear(5, 5)", x.clear(5, 5), NONE);
    }

    private static void narrow() {
        due.promise(20, "narrow");
        SafeClears x = five();
        due.is("cars to walk", x.narrow(0, 1), 2);
        due.is("walk to cars", x.narrow(1, 0), 1);
        due.is("where it is less than its amber, too", x.narrow(0, 3), 0);
        due.is("they don't meet", x.narrow(4, 0), -5);
        due.is("they are one", x.narrow(1, 1), -5);
        due.is("narrow(0, 5)", x.narrow(0, 5), NONE);
        due.is("narrow(-1, 0)", x.narrow(-1, 0), NONE);
        SafeClears y = new SafeClears();
        Due.feed(y, "cb1a1;bb1a1;ca1b1;wa1b1");
        y.read();
        due.is("of like ones the first of a's way", y.narrow(0, 1), 1);
        due.is("the other way round the last one", y.narrow(0, 2), 0);
        due.is("of like ones the first of its own way", y.narrow(2, 3), 0);
    }

    private static void table() {
        due.promise(21, "table");
        SafeClears none = new SafeClears();
        int[] empty = {0, 0, 0, 1, NONE};
        for (int what = 0; what < 5; what++) {
            due.is("without signals table(" + what + ")", none.table(what), empty[what]);
        }
        SafeClears x = five();
        due.is("table(-1)", x.table(-1), NONE);
        due.is("how many twos meet: 0 1, 0 2, 0 3, 2 3", x.table(0), 4);
        due.is("the greatest", x.table(1), 27);
        due.is("all", x.table(2), 7 + 8 + 5 + 7 + 4 + 27 + 5 + x.clear(3, 2));
        due.is("bound without phases", x.table(3), 27 + 40 + 1);
        x.tell(4, 1, 50);
        x.phase(1, 0);
        x.phase(2, 0);
        due.is("bound with two", x.table(3), 3 * (27 + 50 + 1));
        x.safety(5);
        due.is("by safety 4 more each", x.table(1), 31);
        SafeClears y = new SafeClears();
        y.signal(0, 0);
        y.signal(0, 1);
        due.is("none meet", y.table(1), 0);
        due.is("bound, as none meet", y.table(3), 41);
    }

    private static void phaseOf() {
        due.promise(22, "phaseOf");
        SafeClears x = Due.twoThatMeet(0, 0);
        x.come(1, 1);
        x.phase(2, 77);
        due.is("not started: not called", x.phaseOf(1, 3), 0);
        x.start();
        due.is("set", x.phaseOf(2, 0), 2);
        due.is("force", x.phaseOf(2, 1), 77);
        due.is("came on", x.phaseOf(0, 2), 1);
        due.is("on: not called", x.phaseOf(0, 3), 0);
        due.is("called", x.phaseOf(1, 3), 1);
        due.is("called", x.phaseOf(2, 3), 1);
        due.is("phaseOf(3, 0)", x.phaseOf(3, 0), NONE);
        due.is("phaseOf(-1, 0)", x.phaseOf(-1, 0), NONE);
        due.is("phaseOf(0, 4)", x.phaseOf(0, 4), NONE);
        due.is("phaseOf(0, -1)", x.phaseOf(0, -1), NONE);
        x.pass(6);
        due.is("came on", x.phaseOf(1, 2), 1);
        due.is("nobody calls it", x.phaseOf(0, 3), 0);
        x.cycle(20, 0, 1);
        due.is("a cycle calls phase 0", x.phaseOf(0, 3), 1);
    }

    private static void taken() {
        due.promise(23, "taken");
        boolean[][] is = {{true, true, true, true, false}, {true, false, false, false, true},
            {true, true, true, false, false}, {true, true, false, false, false}};
        SafeClears x = new SafeClears();
        due.is("no signal", x.taken(0, 0), NONE);
        for (int kind = 0; kind < 4; kind++) {
            x.signal(kind, kind);
            for (int k = 0; k < 5; k++) {
                due.is("taken(" + kind + ", " + k + ")", x.taken(kind, k), is[kind][k] ? kind : CAST);
            }
        }
        due.is("sort -1", x.taken(0, -1), BAD);
        due.is("sort 5", x.taken(0, 5), BAD);
        due.is("NONE ahead of BAD", x.taken(4, 5), NONE);
    }
}
