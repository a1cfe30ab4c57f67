/** Boundaries of the document's terms 2 and of promises 10 to 15. */
public final class EdgesGoesOnTest {
    private static final Edge edge = new Edge("EdgesGoesOnTest");
    /** Cars 0 and 1 meet; each has a phase of its own. */
    private static final String CARS = "signal 0 0 | signal 0 0 | phase 1 0 | phase 2 0 | start = 2";
    /** Bikes 0 and 1 meet, least and gap 1: what is called comes on as soon as can be. */
    private static final String QUICK = "signal 3 0 | signal 3 0 | tell 0 0 1 | tell 1 0 1 | tell 0 2 1 | tell 1 2 1";
    private static final String QUICK_STARTED = QUICK + " | phase 1 0 | phase 2 0 | start = 2";

    public static void main(String[] args) {
        cycle();
        local();
        come();
        comings();
        seed();
        draws();
        emergency();
        over();
        pass();
        counted();
        lights();
        called();
        changeByLeast();
        changeByMost();
        changeByGap();
        held();
        forced();
        changeForEmergency();
        cut();
        next();
        turning();
        going();
        record();
        edge.end();
    }

    private static void cycle() {
        edge.promise("promise 10");
        String bad = "cycle 19 0 1 = BAD | cycle 1 0 1 = BAD | cycle -1 0 1 = BAD | cycle 241 0 1 = BAD | cycle MIN 0 1 = BAD"
            + " | cycle MAX 0 1 = BAD"
            + " | cycle 20 -1 1 = BAD | cycle 20 20 1 = BAD | cycle 20 MIN 1 = BAD | cycle 20 MAX 1 = BAD | cycle 20 0 0 = BAD"
            + " | cycle 20 0 -1 = BAD"
            + " | cycle 20 0 21 = BAD | cycle 20 0 MIN = BAD | cycle 20 0 MAX = BAD | cycle 240 240 1 = BAD | cycle 240 0 241 = BAD"
            + " | cycle 239 239 1 = BAD"
            + " | cycle 239 0 240 = BAD | cycle 19 19 0 = BAD";
        edge.says("a CYCLE (20 .. 240; 0: none) with an OFFSET (below it) and a SPLIT (1 .. CYCLE): what CYCLE was");
        edge.play("cycle 20 0 1 = 0 | told 12 = 20 | told 13 = 0 | told 14 = 1 | cycle 240 239 240 = 20 | told 12 = 240 | told 13 = 239"
            + " | told 14 = 240",
            "cycle 20 19 20 = 240 | cycle 21 20 21 = 20 | cycle 239 238 239 = 21 | cycle 240 0 239 = 239 | cycle 0 0 0 = 240");
        edge.refused("", bad);
        edge.refused(State.SET_UP, bad);
        edge.refused(State.STARTED, bad);
        edge.says("(cycle 0: none; the others do not matter, and are 0)");
        edge.play("cycle 0 MIN MAX = 0 | cycle 240 3 4 = 0 | cycle 0 -1 -1 = 240 | told 12 = 0 | told 13 = 0 | told 14 = 0"
            + " | told 15 = NEVER | cycle 0 999 999 = 0 | told 13 = 0 | told 14 = 0");
    }

    private static void local() {
        edge.promise("terms 2");
        edge.says("LOCAL is SECOND less OFFSET, modulo CYCLE (not below 0)");
        edge.play("cycle 20 0 1 | told 15 = 0 | cycle 20 1 1 | told 15 = 19 | cycle 20 19 1 | told 15 = 1 | cycle 240 239 1 | told 15 = 1"
            + " | cycle 240 1 1 | told 15 = 239");
        edge.play(CARS, "cycle 20 0 1 | pass 19 | told 15 = 19 | pass 1 | told 15 = 0 | pass 1 | told 15 = 1 | cycle 20 19 1"
            + " | told 15 = 2");
        edge.play(CARS, "cycle 20 19 1 | pass 18 | told 15 = 19 | pass 1 | told 15 = 0 | pass 1 | told 15 = 1 | cycle 240 239 1"
            + " | told 15 = 21 | cycle 0 0 0 | told 15 = NEVER");
        edge.play(CARS, "cycle 240 120 1 | pass 99 | told 15 = 219 | pass 20 | told 15 = 239 | pass 1 | told 15 = 0 | pass 99 | pass 99"
            + " | told 15 = 198 | pass 41 | told 15 = 239 | pass 1 | told 15 = 0");
    }

    private static void come() {
        String four = "4 * come 0 20";
        edge.promise("promise 11");
        edge.says("n (1 .. 20) come to a QUEUE: how many it has");
        edge.play("signal 0 0 | come 0 1 = 1 | come 0 20 = 21 | come 0 2 = 23 | come 0 19 = 42 | of 0 5 = 42 | told 18 = 42 | told 6 = 0");
        edge.play("8 * signal 0 0 | come 7 1 = 1 | come 0 20 = 20 | told 18 = 21 | of 7 5 = 1");
        edge.says("NONE; BAD");
        edge.refused("", "come 0 1 = NONE | come -1 1 = NONE | come 0 0 = NONE");
        edge.refused(State.SET_UP, "come 4 1 = NONE | come -1 1 = NONE | come MIN 1 = NONE | come MAX 1 = NONE | come 4 0 = NONE"
            + " | come -1 21 = NONE"
            + " | come 0 0 = BAD | come 0 21 = BAD | come 3 -1 = BAD | come 3 MIN = BAD | come 3 MAX = BAD");
        edge.refused(State.STARTED, "come 4 1 = NONE | come 4 0 = NONE | come 0 0 = BAD | come 0 21 = BAD");
        edge.refused("signal 0 0 | 5 * come 0 20", "come 0 0 = BAD | come 0 21 = BAD | come 1 1 = NONE");
        edge.says("a QUEUE (99 at most): who would be more than 99 is LOST");
        edge.play("signal 0 0 | " + four, "come 0 18 = 98 | told 6 = 0 | come 0 1 = 99 | told 6 = 0 | come 0 1 = 99 | told 6 = 1"
            + " | come 0 20 = 99 | told 6 = 21");
        edge.play("signal 0 0 | " + four, "come 0 19 = 99 | told 6 = 0");
        edge.play("signal 0 0 | " + four, "come 0 20 = 99 | told 6 = 1 | told 18 = 99 | come 0 2 = 99 | told 6 = 3");
        edge.play("signal 0 0 | " + four, "come 0 18 = 98 | come 0 2 = 99 | told 6 = 1");
    }

    private static void comings() {
        String full = CARS + " | 4 * come 1 20";
        edge.promise("terms 2");
        edge.says("who comes when it is 99 is LOST");
        edge.play(full, "come 1 17 = 97 | tell 1 3 60 | pass 1 | of 1 5 = 98 | pass 1 | of 1 5 = 99 | told 6 = 0 | pass 1 | of 1 5 = 99"
            + " | told 6 = 1 | pass 1 | told 6 = 2");
        edge.play(CARS + " | 4 * come 0 20", "come 0 19 = 99 | tell 0 3 60 | pass 1 = 1 | of 0 5 = 98 | told 6 = 1 | pass 1 = 0"
            + " | of 0 5 = 99 | told 6 = 1 | pass 1 = 1 | of 0 5 = 98 | told 6 = 2");
        edge.says("for each SIGNAL with a RATE above 0");
        edge.play(CARS, "tell 0 3 0 | pass 3 | told 10 = 1 | of 0 5 = 0 | tell 0 3 1 | pass 1 | told 10 = 1103527590 | tell 0 3 0"
            + " | pass 1 | told 10 = 1103527590");
        edge.play("8 * signal 0 0 | tell 7 3 1 | phase 1 0 | start", "pass 1 | told 10 = 1103527590 | tell 0 3 1 | seed 1 | pass 1"
            + " | told 10 = -1770082073");
        edge.says("Each SIGNAL that has a QUEUE is SEEN in this SECOND");
        edge.play(CARS, "pass 1 | of 0 9 = NEVER | come 0 1 | of 0 9 = NEVER | pass 1 | of 0 9 = 1 | pass 1 | of 0 9 = 2 | of 0 5 = 0"
            + " | pass 1 | of 0 9 = 2 | of 1 9 = NEVER");
        edge.play(CARS, "come 0 1 | pass 1 = 1 | of 0 9 = 0 | of 0 5 = 0 | pass 5 | of 0 9 = 0");
        edge.play(CARS, "tell 1 3 60 | pass 0 | of 1 9 = NEVER | pass 1 | of 1 9 = 0 | pass 4 | of 1 9 = 4");
    }

    private static void seed() {
        edge.promise("promise 12");
        edge.says("SEED becomes v: what it was; SEED (1 at first)");
        edge.play("seed 0 = 1 | seed MAX = 0 | seed MIN = MAX | seed -1 = MIN | seed 1 = -1 | told 10 = 1");
        edge.play(State.STARTED, "seed MIN | seed 5 = MIN | told 10 = 5");
    }

    /** By this seed signal 0 draws first. */
    private static void draw(int seed, int rate, boolean comes, String seedThen) {
        edge.play(CARS, "seed " + seed + " | tell 0 3 " + rate + " | pass 1 = " + (comes ? 1 : 0) + " | of 0 9 = " + (comes ? "0" : "NEVER"
            ),
            "told 10 = " + seedThen + " | told 5 = " + (comes ? 1 : 0));
    }

    private static void draws() {
        edge.promise("terms 1");
        edge.says("SEED becomes SEED * 1103515245 + 12345 (an int); (SEED >>> 9) % n; if a DRAW below 60 is less than RATE, one comes");
        draw(584, 1, true, "207821025");
        draw(654, 1, false, "144476847");
        draw(654, 2, true, "144476847");
        draw(409, 58, false, "366181470");
        draw(409, 59, true, "366181470");
        draw(479, 59, false, "302837292");
        draw(479, 60, true, "302837292");
        draw(1, 7, false, "1103527590");
        draw(1, 8, true, "1103527590");
        draw(0, 24, false, "12345");
        draw(0, 25, true, "12345");
        edge.says("an int that wraps around, and is below 0");
        draw(27, 2, false, "-269847112");
        draw(27, 3, true, "-269847112");
        draw(-1, 48, false, "-1103502900");
        draw(-1, 49, true, "-1103502900");
        draw(Integer.MAX_VALUE, 44, false, "1043980748");
        draw(Integer.MAX_VALUE, 45, true, "1043980748");
        draw(Integer.MIN_VALUE, 28, false, "-2147471303");
        draw(Integer.MIN_VALUE, 29, true, "-2147471303");
        edge.says("by numbers");
        edge.play(CARS, "tell 0 3 7 | tell 1 3 17 | pass 1 | of 0 9 = NEVER | of 1 9 = 0 | told 10 = -1770082073");
        edge.play(CARS, "tell 0 3 8 | tell 1 3 16 | pass 1 | of 0 9 = 0 | of 1 9 = NEVER | told 10 = -1770082073");
        edge.play(CARS, "tell 1 3 8 | pass 1 | of 1 9 = 0 | told 10 = 1103527590");
    }

    private static void emergency() {
        edge.promise("promise 13");
        edge.says("NONE; STATE: not STARTED, there is one, no PHASE has it");
        edge.refused("", "emergency 0 = NONE | emergency -1 = NONE | emergency MIN = NONE | emergency MAX = NONE");
        edge.refused(State.SET_UP, "emergency 4 = NONE | emergency -1 = NONE | emergency 0 = STATE | emergency 3 = STATE");
        edge.refused(State.WITH_SIGNALS, "emergency 4 = NONE | emergency 0 = STATE");
        edge.refused(State.STARTED, "emergency 4 = NONE | emergency -1 = NONE | emergency 8 = NONE | emergency 0 = STATE"
            + " | emergency 3 = STATE");
        edge.refused("signal 0 0 | signal 0 0 | phase 1 0 | start", "emergency 1 = STATE | emergency 2 = NONE");
        edge.refused("signal 0 0 | signal 0 0 | 6 * phase 1 0 | start", "emergency 1 = STATE | emergency 2 = NONE");
        edge.refused("signal 0 0 | signal 0 0 | phase 1 0 | start | emergency 0", "emergency 1 = STATE | emergency 0 = STATE"
            + " | emergency 2 = NONE");
        edge.says("the first PHASE that has it");
        edge.play("text 'ca1;ca2;ca3' | read | phase 1 0 | phase 6 0 | phase 4 0 | phase 1 0 | start",
            "told 3 = NEVER | emergency 2 = 1 | told 3 = 2 | over = 2 | emergency 1 = 1 | told 3 = 1 | over = 1 | emergency 0 = 0"
                + " | told 3 = 0");
        edge.play("text 'ca1;ca2;ca3;ca4' | read | text 'ca5;ca6;ca7;ca8' | read | 5 * phase 1 0 | phase 128 0 | start", "emergency 7 = 5"
            + " | told 3 = 7 | over = 7");
    }

    private static void over() {
        edge.promise("promise 14");
        edge.says("which SIGNAL it was. STATE: there's none");
        edge.refused("", "over = STATE");
        edge.refused(State.SET_UP, "over = STATE");
        edge.refused(CARS, "over = STATE");
        edge.refused(State.STARTED + " | over = 3", "over = STATE");
        edge.play(CARS, "emergency 0 | over = 0 | told 3 = NEVER | over = STATE | emergency 1 = 1 | over = 1");
    }

    private static void pass() {
        edge.promise("promise 15");
        edge.says("n SECONDS (0 .. 99) PASS");
        edge.play(CARS, "pass 0 = 0 | told 0 = 0 | told 7 = 0 | pass 1 = 0 | told 0 = 1 | told 7 = 1 | pass 99 = 0 | told 0 = 100"
            + " | pass 98 = 0 | told 0 = 198 | count 5 = 198");
        edge.refused(CARS, "pass -1 = BAD | pass 100 = BAD | pass MIN = BAD | pass MAX = BAD");
        edge.refused(State.STARTED, "pass -1 = BAD | pass 100 = BAD");
        edge.says("STATE: not STARTED");
        edge.refused("", "pass 0 = STATE | pass 1 = STATE | pass 99 = STATE | pass 100 = BAD | pass -1 = BAD");
        edge.refused(State.SET_UP, "pass 0 = STATE | pass 1 = STATE | pass 99 = STATE | pass 100 = BAD | pass -1 = BAD");
        edge.says("FULL, behind all else that a call's words name");
        edge.refused(State.STARTED + State.COUNTED_BEHIND_STARTED, "pass 1 = FULL | pass 99 = FULL | pass 100 = BAD | pass -1 = BAD");
        edge.refused(State.SET_UP + State.ALL_COUNTED, "pass 1 = STATE | pass 0 = STATE | pass 100 = BAD");
        edge.says("how many were SERVED");
        edge.play(CARS, "come 0 20 | pass 39 = 20 | pass 99 = 0 | told 5 = 20");
        edge.play(CARS, "come 0 20 | pass 38 = 19 | pass 1 = 1 | pass 1 = 0 | told 5 = 20 | of 0 10 = 20 | of 1 10 = 0");
    }

    private static void counted() {
        edge.promise("answers");
        edge.says("SECONDS are counted, 12000 in all: what would be more is FULL (and isn't counted)");
        String nearly = CARS + " | 59 * tune | pass 99 | count 5 = 11899";
        edge.play(nearly, "pass 99 = 0 | pass 1 = 0 | count 5 = 11999 | pass 2 = FULL | count 5 = 11999 | told 0 = 199 | pass 1 = 0"
            + " | count 5 = 12000 | pass 1 = FULL | pass 0 = 0 | told 0 = 200");
        edge.play(nearly, "pass 2 | pass 99 = 0 | count 5 = 12000 | told 0 = 200");
        edge.refused(nearly + " | pass 3", "pass 99 = FULL");
        edge.refused(nearly + " | pass 99 | pass 2", "pass 1 = FULL | pass 99 = FULL | pass -1 = BAD");
        edge.says("what is refused isn't counted");
        edge.play("pass 5 = STATE | count 5 = 0 | pass 100 = BAD | count 5 = 0");
    }

    private static void lights() {
        int[] amber = {3, 2, 4, 2};
        int[] clear = {5, 6, 7, 4};
        edge.promise("terms 2");
        edge.says("AMBER: it isn't GREEN, and the SECOND is less than END and its AMBER; else RED");
        for (int kind = 0; kind < 4; kind++) {
            String until = "signal " + kind + " 0 | signal 0 0 | phase 1 0 | phase 2 0 | start | come 1 1 | pass 5 | of 0 6 = 2"
                + " | told 8 = 0 | pass 1 | of 0 8 = 5";
            edge.play(until, "pass " + (amber[kind] - 2) + " | told 0 = " + (4 + amber[kind]) + " | of 0 6 = 1 | told 8 = 1 | pass 1"
                + " | of 0 6 = 0 | told 8 = 0 | told 7 = 0");
            edge.says("it becomes GREEN, if each that it MEETS had its END CLEAR or more SECONDS ago");
            edge.play(until, "pass " + (clear[kind] - 1) + " | told 0 = " + (5 + clear[kind]) + " | told 7 = 0 | of 1 6 = 0 | pass 1"
                + " | told 7 = 2 | of 1 6 = 2 | of 1 7 = " + (5 + clear[kind]));
        }
        edge.says("RED at first");
        edge.play("signal 0 0 | of 0 6 = 0 | phase 1 0 | start | of 0 6 = 0 | told 7 = 0 | told 8 = 0 | pass 1 | of 0 6 = 2 | of 0 7 = 0"
            + " | of 0 13 = 1 | of 0 8 = NEVER");
    }

    private static void called() {
        String three = "text 'ca1;ca1;cb1' | read | phase 1 0 | phase 2 0 | phase 5 0 | phase 4 0 | start | pass 1";
        edge.promise("terms 2");
        edge.says("A SIGNAL is CALLED, if it has a QUEUE and isn't GREEN; a PHASE that isn't ON, if a SIGNAL of it is");
        edge.play(three, "told 9 = 0 | come 0 1 | told 9 = 0 | phaseOf 0 3 = 0 | phaseOf 2 3 = 0 | come 2 1 | told 9 = 12"
            + " | phaseOf 2 3 = 1 | phaseOf 3 3 = 1 | come 1 1 | told 9 = 14 | phaseOf 1 3 = 1");
        edge.play(three, "come 2 2 | pass 5 | told 1 = 2 | told 7 = 5 | told 9 = 0 | phaseOf 3 3 = 0 | of 2 5 = 1");
        edge.says("or if it is PHASE 0 and there is a CYCLE");
        edge.play(three, "cycle 20 0 1 | told 9 = 0 | phaseOf 0 3 = 0 | come 1 1 | told 9 = 2 | pass 5 | told 1 = 1 | told 9 = 1"
            + " | phaseOf 0 3 = 1 | cycle 0 0 0 | told 9 = 0 | phaseOf 0 3 = 0");
        edge.says("none, if it isn't STARTED");
        edge.play("signal 0 0 | signal 0 0 | phase 1 0 | phase 2 0 | come 0 1 | come 1 1 | cycle 20 0 1", "told 9 = 0 | phaseOf 0 3 = 0"
            + " | phaseOf 1 3 = 0 | start | told 9 = 2 | phaseOf 0 3 = 0 | phaseOf 1 3 = 1");
    }

    private static void changeByLeast() {
        edge.promise("terms 2");
        edge.says("if all of THE PHASE's SIGNALS are GREEN for their LEAST or longer");
        for (int least : new int[] {1, 2, 5, 19, 20}) {
            edge.play("signal 0 0 | signal 0 0 | tell 0 0 " + least + " | phase 1 0 | phase 2 0 | start | come 1 1 | pass " + least,
                "told 1 = 0 | told 7 = 1 | count 6 = 0 | pass 1 | told 1 = 1 | told 7 = 0 | of 0 8 = " + least + " | recorded 0 1 = 0"
                    + " | recorded 0 2 = " + least);
        }
        edge.says("all of them");
        edge.play("text 'ca1*1;cb1*7;wa1' | read | phase 3 0 | phase 4 0 | start | come 2 1 | pass 7", "told 1 = 0 | told 7 = 3 | pass 1"
            + " | told 1 = 1 | of 0 8 = 7 | of 1 8 = 7");
        edge.says("one of which isn't GREEN at all");
        edge.play("text 'ca1*1;cb1*1;wa1*1;tb1*1' | read | phase 1 0 | phase 8 0 | phase 3 0 | phase 4 0 | start | come 3 1 | pass 10"
            + " | told 1 = 1 | told 7 = 8",
            "come 0 1 | come 2 1 | pass 1 | told 1 = 2 | told 7 = 1 | of 3 8 = 10 | pass 6 | told 7 = 1 | told 1 = 2 | pass 1"
                + " | told 7 = 3 | of 1 7 = 17 | told 1 = 2 | pass 1 | told 1 = 3");
        edge.says("another PHASE is CALLED");
        edge.play(CARS, "pass 99 | told 1 = 0 | come 0 20 | pass 99 | told 1 = 0 | phaseOf 0 2 = 1 | count 6 = 0 | come 1 1 | pass 1"
            + " | told 1 = 1 | of 0 8 = 198");
    }

    private static void changeByMost() {
        edge.promise("terms 2");
        edge.says("one of its SIGNALS is GREEN for its MOST or longer");
        for (int most : new int[] {1, 2, 40, 98, 99}) {
            edge.play("signal 3 0 | signal 3 0 | tell 0 0 1 | tell 0 1 " + most + " | tell 0 3 60 | phase 1 0 | phase 2 0 | start"
                + " | come 1 1 | pass " + most,
                "told 1 = 0 | told 7 = 1 | of 0 9 = " + (most - 1) + " | pass 1 | told 1 = 1 | told 7 = 0 | of 0 8 = " + most + ""
                    + " | of 0 9 = " + most);
        }
        edge.says("one of two");
        edge.play("text 'ba1*1/9@60;bb1*1/4@60;wa1' | read | phase 3 0 | phase 4 0 | start | come 2 1 | pass 4", "told 1 = 0 | pass 1"
            + " | told 1 = 1 | of 0 8 = 4 | of 1 8 = 4");
        edge.says("for their LEAST or longer, too");
        edge.play("text 'ba1*9/9@60;bb1*1/4@60;wa1' | read | phase 3 0 | phase 4 0 | start | come 2 1 | pass 9", "told 1 = 0 | pass 1"
            + " | told 1 = 1 | of 0 8 = 9");
    }

    private static void changeByGap() {
        edge.promise("terms 2");
        edge.says("each of them was SEEN last GAP or more SECONDS ago");
        for (int gap : new int[] {1, 2, 3, 8, 9}) {
            edge.play(QUICK + " | tell 0 2 " + gap + " | phase 1 0 | phase 2 0 | start | come 0 1 | come 1 1 | pass " + gap,
                "told 1 = 0 | of 0 9 = 0 | of 0 5 = 0 | pass 1 | told 1 = 1 | of 0 8 = " + gap);
        }
        edge.says("or never");
        edge.play(QUICK + " | tell 0 2 9 | phase 1 0 | phase 2 0 | start | come 1 1", "pass 1 | told 1 = 0 | pass 1 | told 1 = 1"
            + " | of 0 8 = 1");
        edge.says("each of them");
        edge.play("text 'ba1*1~2;bb1*1~5;wa1' | read | phase 3 0 | phase 4 0 | start | come 0 1 | come 1 1 | come 2 1", "pass 5"
            + " | told 1 = 0 | pass 1 | told 1 = 1 | of 1 8 = 5");
        edge.play("text 'ba1*1~2;bb1*1~5;wa1' | read | phase 3 0 | phase 4 0 | start | come 0 1 | come 2 1", "pass 2 | told 1 = 0"
            + " | pass 1 | told 1 = 1 | of 1 8 = 2");
        edge.says("a GAP that is told while it goes on");
        edge.play(QUICK + " | tell 0 2 9 | phase 1 0 | phase 2 0 | start | come 0 1 | come 1 1", "pass 4 | told 1 = 0 | tell 0 2 4 = 9"
            + " | pass 1 | told 1 = 1 | of 0 8 = 4");
    }

    private static void held() {
        edge.promise("terms 2");
        edge.says("PHASE 0 is HELD while LOCAL is below SPLIT (1 .. CYCLE)");
        for (int split : new int[] {1, 2, 10, 19}) {
            edge.play(QUICK_STARTED, "cycle 20 0 " + split + " | come 1 1 | pass " + split + " | told 1 = 0 | pass 1 | told 1 = 1"
                + " | of 0 8 = " + split);
        }
        edge.play(QUICK_STARTED, "cycle 20 0 20 | come 1 1 | pass 99 | told 1 = 0 | pass 99 | told 1 = 0 | cycle 20 0 19 | pass 1"
            + " | told 0 = 199 | told 1 = 0 | pass 1 | told 1 = 1 | of 0 8 = 199");
        edge.play(QUICK_STARTED, "cycle 240 0 239 | come 1 1 | pass 99 | pass 99 | pass 41 | told 1 = 0 | pass 1 | told 1 = 1"
            + " | of 0 8 = 239");
        edge.says("by an OFFSET");
        edge.play(QUICK_STARTED, "cycle 20 5 16 | come 1 1 | told 15 = 15 | pass 1 | told 1 = 0 | pass 1 | told 1 = 1 | of 0 8 = 1");
        edge.play(QUICK_STARTED, "cycle 20 5 17 | come 1 1 | pass 2 | told 1 = 0 | pass 1 | told 1 = 1 | of 0 8 = 2");
        edge.says("LOCAL begins anew");
        edge.play(QUICK_STARTED, "cycle 20 5 3 | pass 4 | told 15 = 19 | come 1 1 | pass 1 | told 1 = 1");
        edge.play(QUICK_STARTED, "cycle 20 5 3 | pass 5 | told 15 = 0 | come 1 1 | pass 3 | told 1 = 0 | pass 1 | told 1 = 1 | of 0 8 = 8");
        edge.says("PHASE 0 alone is HELD");
        edge.play(QUICK_STARTED, "come 1 1 | pass 6 | told 1 = 1 | told 7 = 2 | cycle 20 0 20 | come 0 1 | pass 1 | told 1 = 0");
        edge.says("without a CYCLE it isn't HELD");
        edge.play(QUICK_STARTED, "cycle 20 0 20 | come 1 1 | pass 9 | told 1 = 0 | cycle 0 0 0 | pass 1 | told 1 = 1 | of 0 8 = 9");
    }

    private static String forcedFrom(int force) {
        return QUICK + " | tell 1 1 99 | tell 1 3 60 | phase 1 0 | phase 2 " + force + " | start | cycle 20 0 1";
    }

    private static void forced() {
        edge.promise("terms 2");
        edge.says("another PHASE is FORCED while LOCAL is its FORCE or more");
        // green in 5, and so in 6 for its least of 1
        for (int force : new int[] {0, 1, 5, 6}) {
            edge.play(forcedFrom(force), "pass 6 | told 1 = 1 | told 7 = 2 | of 1 7 = 5 | pass 1 | told 1 = 0 | of 1 8 = 6");
        }
        for (int force : new int[] {7, 8, 18, 19}) {
            edge.play(forcedFrom(force), "pass " + force + " | told 1 = 1 | told 7 = 2 | pass 1 | told 1 = 0 | of 1 8 = " + force);
        }
        edge.says("a FORCE that LOCAL never is");
        for (int force : new int[] {20, 21, 239}) {
            edge.play(forcedFrom(force), "pass 99 | told 1 = 1 | pass 5 | told 1 = 1 | pass 1 | told 1 = 0 | of 1 8 = 104");
        }
        edge.says("LOCAL begins anew");
        edge.play(forcedFrom(19), "cycle 20 6 1 | pass 6 | told 15 = 0 | told 7 = 2 | pass 19 | told 15 = 19 | told 1 = 1 | pass 1"
            + " | told 1 = 0 | of 1 8 = 25");
        edge.says("another PHASE: PHASE 0 isn't FORCED");
        edge.play(QUICK + " | tell 0 3 60 | phase 1 0 | phase 2 0 | start | cycle 21 0 1 | come 1 1", "pass 40 | told 1 = 0 | pass 1"
            + " | told 1 = 1 | of 0 8 = 40");
        edge.play(QUICK + " | tell 0 3 60 | phase 1 0 | phase 2 0 | start | cycle 20 0 1 | come 1 1", "pass 41 | told 1 = 0 | pass 1"
            + " | told 1 = 1 | of 0 8 = 41");
        edge.says("without a CYCLE none is FORCED");
        edge.play(forcedFrom(0), "pass 5 | cycle 0 0 0 | come 0 1 | pass 40 | told 1 = 1 | pass 59 | told 1 = 1 | pass 1 | told 1 = 0"
            + " | of 1 8 = 104");
    }

    private static void changeForEmergency() {
        int[] leasts = {1, 2, 3, 4, 5, 19, 20};
        int[] halves = {1, 1, 2, 2, 3, 10, 10};
        edge.promise("terms 2");
        edge.says("one of THE PHASE's GREEN ones is so for less than half its LEAST (rounded up)");
        for (int k = 0; k < leasts.length; k++) {
            edge.play("signal 0 0 | signal 0 0 | tell 0 0 " + leasts[k] + " | phase 1 0 | phase 2 0 | start | pass 1 | emergency 1 = 1"
                + " | pass " + (halves[k] - 1),
                "told 1 = 0 | told 2 = NEVER | told 7 = 1 | pass 1 | told 1 = 1 | told 2 = 0 | of 0 8 = " + halves[k]);
        }
        edge.says("it is GREEN for so many SECONDS as have gone by since it BEGAN, in 10");
        edge.play(CARS, "come 1 1 | pass 11 | of 1 7 = 10 | emergency 0 = 0 | pass 2 | told 1 = 1 | pass 1 | told 1 = 0 | of 1 8 = 13");
        edge.says("one of two GREEN ones");
        edge.play("text 'ca1*1;cb1*9;wa1' | read | phase 3 0 | phase 4 0 | start | pass 1 | emergency 2 = 1", "pass 4 | told 1 = 0"
            + " | pass 1 | told 1 = 1 | of 0 8 = 5 | of 1 8 = 5");
        edge.says("none is GREEN");
        edge.play(CARS, "emergency 1 = 1 | pass 1 | told 1 = 1 | told 2 = 0 | phaseOf 1 2 = 1 | told 7 = 2 | of 1 7 = 0 | count 6 = 0");
        edge.says("that is in THE PHASE: nothing");
        edge.play(CARS, "emergency 0 = 0 | come 1 20 | pass 99 | told 1 = 0 | told 2 = NEVER | phaseOf 0 2 = 1 | over = 0 | pass 1"
            + " | told 1 = 1");
        edge.says("to the first PHASE that has it");
        edge.play("text 'ca1;ca1;cb1' | read | phase 1 0 | phase 2 0 | phase 6 0 | phase 4 0 | start | emergency 2 = 2 | pass 1"
            + " | told 1 = 2 | over | emergency 0 = 0 | pass 9 | told 1 = 0");
        edge.says("though it isn't CALLED, and THE PHASE is HELD and SEEN");
        edge.play(CARS, "cycle 20 0 20 | tell 0 3 60 | pass 3 | emergency 1 | told 9 = 0 | pass 1 | told 1 = 1 | of 0 8 = 3");
        edge.says("FORCED or not, it stays");
        edge.play(forcedFrom(0), "emergency 1 | pass 99 | told 1 = 1 | pass 99 | told 1 = 1 | count 6 = 0");
    }

    private static void cut() {
        String three = "text 'ba1*1~1;ba1*1~1;ba1*1~1;ba1*1~1' | read | phase 1 0 | phase 2 0 | phase 4 0 | phase 8 0 | start | pass 1";
        edge.promise("terms 2");
        edge.says("THE PHASE is CUT, if none was");
        edge.play(three, "emergency 2 | told 2 = NEVER | pass 1 | told 1 = 2 | told 2 = 0 | over | emergency 3 | pass 5 | told 1 = 3"
            + " | told 2 = 0 | over | emergency 0 | pass 5 | told 1 = 0 | told 2 = 0");
        edge.says("to the one that is CUT, if that is CALLED; none is CUT then");
        edge.play(three, "emergency 2 | come 0 1 | come 3 1 | pass 6 | told 1 = 2 | over | told 2 = 0 | pass 1 | told 1 = 0"
            + " | told 2 = NEVER | pass 4 | told 1 = 0 | pass 1 | told 1 = 3");
        edge.says("else to the first behind THE PHASE that is CALLED; none is CUT then");
        edge.play(three, "emergency 2 | come 1 1 | come 3 1 | pass 6 | over | pass 1 | told 1 = 3 | told 2 = NEVER | pass 5 | told 1 = 1");
        edge.says("it stays CUT, as long as no PHASE is CALLED");
        edge.play(three, "emergency 2 | pass 1 | over | pass 50 | told 1 = 2 | told 2 = 0 | come 0 1 | come 3 1 | pass 1 | told 1 = 0"
            + " | told 2 = NEVER");
        edge.says("the one that is CUT is ON itself, and so isn't CALLED");
        edge.play(three, "emergency 2 | pass 1 | over | emergency 0 | pass 5 | told 1 = 0 | told 2 = 0 | over | come 2 1 | come 0 1"
            + " | pass 9 | told 1 = 2 | told 2 = NEVER");
    }

    private static void next() {
        String six = "text 'ba1*1~1;ba1*1~1;ba1*1~1;ba1*1~1' | read | text 'ba1*1~1;ba1*1~1' | read | phase 1 0 | phase 2 0 | phase 4 0"
            + " | phase 8 0 | phase 16 0 | phase 32 0 | start = 6 | pass 1";
        edge.promise("terms 2");
        edge.says("to the first behind THE PHASE (behind the last comes PHASE 0) that is CALLED");
        edge.play(six, "come 5 1 | come 1 1 | pass 1 | told 1 = 1 | pass 5 | told 1 = 5 | come 4 1 | pass 5 | told 1 = 4 | come 3 1"
            + " | pass 5 | told 1 = 3 | come 2 1 | come 4 1 | pass 5 | told 1 = 4 | pass 5 | told 1 = 2");
        edge.play(six, "come 5 1 | pass 1 | told 1 = 5 | come 0 1 | come 4 1 | pass 5 | told 1 = 0 | pass 5 | told 1 = 4 | come 0 1"
            + " | come 5 1 | pass 5 | told 1 = 5 | pass 5 | told 1 = 0 | phaseOf 0 2 = 3 | phaseOf 5 2 = 2 | phaseOf 1 2 = 0");
    }

    private static void turning() {
        edge.promise("terms 2");
        edge.says("CLEAR (of that one to it) or more SECONDS ago: by SAFETY 0 and 5");
        edge.play("signal 0 0 | signal 0 0 | phase 1 0 | phase 2 0 | safety 0 | start | come 1 1 | pass 9", "told 7 = 0 | pass 1"
            + " | told 7 = 2 | of 1 7 = 9");
        edge.play("signal 0 0 | signal 0 0 | phase 1 0 | phase 2 0 | safety 5 | start | come 1 1 | pass 14", "told 7 = 0 | pass 1"
            + " | told 7 = 2 | of 1 7 = 14");
        edge.says("each SIGNAL that it MEETS");
        edge.play("text 'ca1;tb1;wa1b1' | read | phase 3 0 | phase 4 0 | start | come 2 1", "clear 0 2 = 5 | clear 1 2 = 5 | pass 6"
            + " | of 0 8 = 5 | of 1 8 = 5 | pass 4 | told 7 = 0 | pass 1 | told 7 = 4 | of 2 7 = 10");
        edge.play("text 'ca1;tb1c1;wa1c1' | read | phase 3 0 | phase 4 0 | start | come 2 1", "clear 0 2 = 5 | clear 1 2 = 6 | pass 11"
            + " | told 7 = 0 | pass 1 | told 7 = 4 | of 2 7 = 11");
        edge.says("it never had an END, or does not MEET: at once");
        edge.play("text 'ca1;wb1;ta1' | read | phase 1 0 | phase 2 0 | phase 4 0 | start | come 1 1", "pass 5 | told 7 = 1 | pass 1"
            + " | told 1 = 1 | told 7 = 2 | of 1 7 = 5 | of 0 8 = 5");
        edge.says("who is in both PHASES stays GREEN");
        edge.play("text 'ca1;wb1;tb1' | read | phase 3 0 | phase 5 0 | start | come 2 1 | pass 6", "told 1 = 1 | told 7 = 1 | of 0 7 = 0"
            + " | of 0 8 = NEVER | of 0 13 = 1 | count 6 = 1 | recorded 0 0 = 1");
        edge.says("the GREENS end by numbers");
        edge.play("text 'ca1;cb1;cc1;wa1b1c1' | read | phase 7 0 | phase 8 0 | start | come 3 1 | pass 6", "count 6 = 3"
            + " | recorded 0 0 = 2 | recorded 1 0 = 1 | recorded 2 0 = 0 | recorded 3 0 = BAD");
    }

    private static void going() {
        edge.promise("terms 2");
        edge.says("of CARS one, if k is even; of WALK all; of TRAM one, if k modulo 4 is 0; of BIKES one");
        edge.play("signal 0 0 | phase 1 0 | start | come 0 3", "pass 1 = 1 | pass 1 = 0 | pass 1 = 1 | pass 1 = 0 | pass 1 = 1"
            + " | pass 1 = 0 | pass 1 = 0 | of 0 10 = 3 | told 4 = 6");
        edge.play("signal 1 0 | phase 1 0 | start | 4 * come 0 20 | come 0 19 = 99", "pass 1 = 99 | told 4 = 0 | of 0 5 = 0 | pass 1 = 0"
            + " | come 0 1 | pass 1 = 1 | of 0 10 = 100");
        edge.play("signal 2 0 | phase 1 0 | start | come 0 2", "pass 1 = 1 | pass 1 = 0 | pass 1 = 0 | pass 1 = 0 | pass 1 = 1"
            + " | pass 1 = 0 | come 0 1 | pass 1 = 0 | pass 1 = 0 | pass 1 = 1 | told 4 = 6");
        edge.play("signal 3 0 | phase 1 0 | start | come 0 2", "pass 1 = 1 | pass 1 = 1 | pass 1 = 0 | told 4 = 1");
        edge.says("GREEN for k SECONDS (0 as it BEGAN, in 5)");
        String fromFive = " | tell 0 0 1 | phase 1 0 | phase 2 0 | start | come 1 3 | pass 5 = 0";
        edge.play("signal 3 0 | signal 0 0" + fromFive, "pass 1 = 1 | of 1 7 = 5 | pass 1 = 0 | pass 1 = 1 | pass 1 = 0 | pass 1 = 1");
        edge.play("signal 3 0 | signal 2 0" + fromFive, "pass 1 = 1 | of 1 7 = 5 | pass 3 = 0 | pass 1 = 1 | pass 3 = 0 | pass 1 = 1");
        edge.play("signal 3 0 | signal 1 0" + fromFive, "pass 1 = 3 | of 1 7 = 5");
        edge.play("signal 3 0 | signal 3 0" + fromFive, "pass 1 = 1 | of 1 7 = 5 | pass 1 = 1 | pass 1 = 1 | pass 1 = 0");
        edge.says("from each GREEN SIGNAL that has a QUEUE");
        edge.play("text 'ca1;wb1;tc1;bd1' | read | phase 15 0 | start | come 0 2 | come 1 2 | come 2 2 | come 3 2", "pass 1 = 5"
            + " | told 18 = 3 | told 4 = 3 | pass 1 = 1 | told 18 = 2 | told 4 = 5 | pass 1 = 1 | pass 1 = 0 | pass 1 = 1 | told 18 = 0"
            + " | told 5 = 8");
        edge.play(CARS, "come 1 9 | pass 5 = 0 | told 4 = 45 | of 1 5 = 9 | of 1 10 = 0");
    }

    private static void record() {
        String turns = QUICK + " | tell 0 1 1 | tell 1 1 1 | tell 0 3 60 | tell 1 3 60 | phase 1 0 | phase 2 0 | start";
        edge.promise("terms 2");
        edge.says("THE RECORD keeps the latest 24 GREENS that were ended");
        // the k-th green is of signal k modulo 2, from 5 k to 5 k and 1
        edge.play(turns, "pass 1 | count 6 = 0 | pass 1 | count 6 = 1 | pass 97 | pass 12 | told 0 = 111 | count 6 = 22 | pass 1"
            + " | count 6 = 23 | recorded 22 1 = 0 | recorded 23 0 = BAD",
            "pass 4 | count 6 = 23 | pass 1 | count 6 = 24 | recorded 23 0 = 0 | recorded 23 1 = 0 | recorded 23 2 = 1"
                + " | recorded 0 1 = 115 | recorded 0 2 = 116 | recorded 24 0 = BAD | greens 0 0 = 12 | greens 1 0 = 12",
            "pass 5 | count 6 = 24 | recorded 23 0 = 1 | recorded 23 1 = 5 | recorded 23 2 = 6 | recorded 0 0 = 0 | recorded 0 1 = 120"
                + " | recorded 24 0 = BAD | greens 0 0 = 12 | of 0 13 = 13",
            "pass 5 | count 6 = 24 | recorded 23 1 = 10 | recorded 23 0 = 0 | recorded 0 0 = 1");
        edge.says("two end in one SECOND as there's room for one");
        edge.play("text 'ba1*1/1@60;bb1*1/1@60;bc1*1/1@60;ba1*1/1@60' | read | text 'bb1*1/1@60' | read | phase 7 0 | phase 24 0 | start",
            "pass 41 | count 6 = 20 | pass 1 | count 6 = 23 | recorded 22 0 = 0 | recorded 22 1 = 0 | recorded 0 0 = 2 | pass 5"
                + " | count 6 = 24 | recorded 0 0 = 4 | recorded 1 0 = 3",
            "recorded 23 0 = 1 | recorded 23 1 = 0 | recorded 22 0 = 2 | recorded 22 1 = 0 | recorded 21 0 = 3 | recorded 21 1 = 5");
    }
}
