/** Boundaries of promises 16 to 29: what is there, the record, proofs. */
public final class EdgesThereTest {
    private static final Edge edge = new Edge("EdgesThereTest");
    private static final String EIGHT = "8 * signal 0 5";
    /** Bikes by turns: the k-th green is of signal k modulo 2, from 5 k to 5 k and 1. */
    private static final String TURNS = "text 'ba1*1/1~1@60;ba1*1/1~1@60' | read = 2 | phase 1 0 | phase 2 0 | start";

    public static void main(String[] args) {
        told();
        of();
        way();
        clearAndNarrow();
        table();
        phaseOf();
        taken();
        recorded();
        greens();
        could();
        couldByTheRecord();
        crowded();
        green();
        proved();
        edge.end();
    }

    private static void told() {
        String none = "told -1 = NONE | told 19 = NONE | told MIN = NONE | told MAX = NONE";
        edge.promise("promise 16");
        edge.says("what 0 .. 18; NONE");
        edge.refused("", none);
        edge.refused(State.SET_UP, none);
        edge.refused(State.STARTED, none);
        edge.says("1 THE PHASE, 2 the one that is CUT, 3 the EMERGENCY (-5 each: none)");
        edge.play("told 1 = NEVER | told 2 = NEVER | told 3 = NEVER | signal 0 0 | signal 0 0 | 5 * phase 1 0 | phase 2 0"
            + " | told 1 = NEVER | start | told 1 = 0",
            "emergency 1 = 5 | pass 1 | told 1 = 5 | told 2 = 0 | told 3 = 1 | over | told 3 = NEVER | told 2 = 0");
        edge.says("7 GREEN, 8 AMBER SIGNALS (bits)");
        edge.play("text 'ca1;ca2;ca3;ca4' | read | text 'ca5;ca6;ca7;ca8' | read | phase 255 0 | phase 128 0 | signal 0 0 = FULL | start"
            + " | told 7 = 0 | told 8 = 0 | pass 1 | told 7 = 255 | told 8 = 0",
            "emergency 7 = 0 | pass 5 | told 7 = 255");
        edge.play("text 'ca1;ca2;ca3;ca4' | read | text 'ca5;ca6;ca7;wa1' | read | phase 127 0 | phase 128 0 | start | come 7 1 | pass 6",
            "told 7 = 0 | told 8 = 127 | told 9 = 0 | pass 2 | told 8 = 0 | pass 2 | told 7 = 0 | pass 1 | told 7 = 128");
        edge.says("9 PHASES CALLED (bits)");
        edge.play("text 'ca1;ca1' | read | phase 1 0 | 5 * phase 2 0 | start | come 1 1 | told 9 = 62 | pass 6 | told 1 = 1 | told 9 = 60"
            + " | cycle 20 0 1 | told 9 = 61");
        edge.says("16 SIGNALS, 17 PHASES, 18 all QUEUES");
        edge.play(EIGHT + " | 6 * phase 128 0 | told 16 = 8 | told 17 = 6 | told 18 = 0 | come 0 1 | come 7 20 | told 18 = 21");
        edge.says("0 SECOND, 10 SEED, 11 SAFETY, 12 CYCLE, 13 OFFSET, 14 SPLIT, 15 LOCAL (-5: no CYCLE)");
        edge.play("seed MIN | told 10 = MIN | seed MAX | told 10 = MAX | safety 5 | told 11 = 5 | told 15 = NEVER | cycle 240 239 240"
            + " | told 12 = 240 | told 13 = 239 | told 14 = 240 | told 15 = 1 | told 0 = 0");
    }

    private static void of() {
        String none = "of 4 0 = NONE | of -1 0 = NONE | of MIN 0 = NONE | of MAX 0 = NONE | of 0 -1 = NONE | of 0 14 = NONE"
            + " | of 3 MIN = NONE | of 3 MAX = NONE | of 4 14 = NONE";
        edge.promise("promise 17");
        edge.says("NONE");
        edge.refused("", "of 0 0 = NONE | of -1 0 = NONE");
        edge.refused(State.SET_UP, none);
        edge.refused(State.STARTED, none);
        edge.play(EIGHT, "of 7 0 = 0 | of 8 0 = NONE | of 7 13 = 0 | of 7 14 = NONE");
        edge.says("7 when it BEGAN last, 8 END, 9 when it was SEEN last (-5 each: never)");
        edge.play(TURNS, "of 0 7 = NEVER | of 0 8 = NEVER | of 0 9 = NEVER | pass 1 | of 0 7 = 0 | of 0 8 = NEVER | of 0 9 = 0"
            + " | of 1 7 = NEVER | of 1 9 = 0 | pass 1 | of 0 7 = 0 | of 0 8 = 1",
            "pass 4 | of 1 7 = 5 | of 1 8 = NEVER | pass 5 | of 0 7 = 10 | of 0 8 = 1 | pass 1 | of 0 8 = 11");
        edge.says("11 how many CELLS, 12 SIGNALS that it MEETS (bits)");
        edge.play(EIGHT, "of 0 12 = 254 | of 7 12 = 127 | of 3 12 = 247 | of 0 11 = 1 | goes 0 0 | of 0 11 = 2");
        edge.says("10 SERVED of it, 13 how many GREENS it began");
        edge.play(TURNS, "of 0 10 = 0 | of 0 13 = 0 | pass 1 = 1 | of 0 10 = 1 | of 0 13 = 1 | of 1 13 = 0 | pass 5 = 1 | of 1 10 = 1"
            + " | of 1 13 = 1 | of 0 13 = 1 | pass 4 = 0 | of 0 13 = 1 | pass 1 = 1 | of 0 13 = 2 | of 0 10 = 2");
    }

    private static void way() {
        edge.promise("promise 18");
        edge.says("The k-th CELL of its WAY. NONE; BAD");
        edge.refused("", "way 0 0 = NONE | way -1 0 = NONE");
        edge.refused(State.SET_UP, "way 4 0 = NONE | way -1 0 = NONE | way MIN 0 = NONE | way MAX 0 = NONE | way 4 -1 = NONE"
            + " | way 4 2 = NONE | way 0 -1 = BAD | way 0 2 = BAD"
            + " | way 0 8 = BAD | way 0 MIN = BAD | way 0 MAX = BAD | way 3 2 = BAD");
        edge.play("text 'cd4e5f6g7h8a1b2c3;wh1' | read", "way 0 0 = 27 | way 0 7 = 18 | way 0 8 = BAD | way 1 0 = 7 | way 1 1 = BAD"
            + " | way 1 -1 = BAD | way 2 0 = NONE");
        edge.play(EIGHT, "way 7 0 = 5 | way 7 1 = BAD | way 8 0 = NONE");
    }

    private static void clearAndNarrow() {
        ofTwo("clear", "promise 19");
        ofTwo("narrow", "promise 20");
        edge.promise("promises 19, 20");
        edge.says("the last of 8 SIGNALS");
        edge.play(EIGHT, "clear 7 0 = 5 | clear 0 7 = 5 | narrow 7 0 = 5 | narrow 6 7 = 5 | clear 7 7 = NEVER | narrow 7 7 = NEVER"
            + " | clear 8 0 = NONE | narrow 0 8 = NONE");
    }

    /** What is alike of clear() and narrow(). */
    private static void ofTwo(String name, String promise) {
        edge.promise(promise);
        edge.says("NONE");
        edge.refused("", calls(name, "CALL 0 0 = NONE | CALL 0 1 = NONE | CALL -1 -1 = NONE"));
        edge.refused(State.SET_UP, calls(name, "CALL 4 0 = NONE | CALL 0 4 = NONE | CALL -1 0 = NONE | CALL 0 -1 = NONE | CALL 4 4 = NONE"
            + " | CALL -1 4 = NONE | CALL MIN 0 = NONE | CALL 0 MIN = NONE | CALL MAX 0 = NONE | CALL 3 MAX = NONE"));
        edge.says("-5: they don't MEET (or are one)");
        edge.play(State.SET_UP, calls(name, "CALL 0 0 = NEVER | CALL 3 3 = NEVER | CALL 0 2 = NEVER | CALL 2 0 = NEVER"));
        edge.play(calls(name, "signal 0 0 | CALL 0 0 = NEVER | CALL 0 1 = NONE | CALL 1 0 = NONE | signal 0 1 | CALL 0 1 = NEVER"
            + " | CALL 1 0 = NEVER"));
    }

    private static String calls(String name, String calls) {
        return calls.replace("CALL", name);
    }

    private static void table() {
        edge.promise("promise 21");
        edge.says("what 0 .. 3. NONE");
        edge.refused("", "table -1 = NONE | table 4 = NONE | table MIN = NONE | table MAX = NONE");
        edge.refused(State.STARTED, "table -1 = NONE | table 4 = NONE");
        edge.says("how many twos MEET, the greatest CLEAR (0: none MEET), all CLEARS together");
        edge.play("signal 1 0 | table 0 = 0 | table 1 = 0 | table 2 = 0 | signal 2 1 | table 0 = 0 | table 1 = 0 | table 2 = 0"
            + " | signal 0 1 | table 0 = 1 | table 1 = 7 | table 2 = 12 | goes 0 1 | table 0 = 3");
        edge.play(EIGHT, "table 0 = 28 | table 1 = 5 | table 2 = 280");
        edge.play("signal 2 0 | signal 0 0 | table 0 = 1 | table 1 = 7 | table 2 = 12");
        edge.play("signal 0 0 | signal 2 0 | table 0 = 1 | table 1 = 7 | table 2 = 12");
        edge.play("7 * signal 3 9 | signal 2 0 | table 1 = 4 | goes 7 9 | table 1 = 9 | goes 7 8 | table 1 = 9 | table 2 = 252");
        edge.says("3 BOUND: (PHASES and 1) times the greatest CLEAR, the greatest MOST and 1, together");
        edge.play("table 3 = 1 | signal 0 0 | table 3 = 41 | tell 0 1 99 | table 3 = 100 | signal 0 0 | table 3 = 105 | tell 0 1 41"
            + " | table 3 = 47 | tell 0 1 40 | table 3 = 46",
            "tell 1 1 5 | table 3 = 46 | tell 0 1 5 | table 3 = 11 | phase 1 0 | table 3 = 22 | 5 * phase 1 0 | table 3 = 77 | safety 5"
                + " | table 3 = 105");
    }

    private static void phaseOf() {
        edge.promise("promise 22");
        edge.says("NONE");
        edge.refused("", "phaseOf 0 0 = NONE | phaseOf -1 0 = NONE");
        edge.refused(State.SET_UP, "phaseOf 3 0 = NONE | phaseOf -1 0 = NONE | phaseOf MIN 0 = NONE | phaseOf MAX 0 = NONE"
            + " | phaseOf 0 -1 = NONE | phaseOf 0 4 = NONE | phaseOf 2 MIN = NONE | phaseOf 2 MAX = NONE | phaseOf 3 4 = NONE");
        edge.refused(State.STARTED, "phaseOf 3 0 = NONE | phaseOf 0 4 = NONE | phaseOf -1 0 = NONE");
        edge.play("signal 0 0 | 5 * phase 1 0 | phase 1 239 | phaseOf 5 0 = 1 | phaseOf 5 1 = 239 | phaseOf 5 2 = 0 | phaseOf 5 3 = 0"
            + " | phaseOf 6 0 = NONE");
        edge.says("2 how often it came ON, 3 1: it is CALLED (0, if it isn't STARTED), 0");
        edge.play("text 'ca1;ca1' | read | phase 1 0 | phase 2 0 | come 0 1 | come 1 1 | phaseOf 0 3 = 0 | phaseOf 1 3 = 0"
            + " | phaseOf 0 2 = 0 | start | phaseOf 0 2 = 1 | phaseOf 0 3 = 0 | phaseOf 1 3 = 1 | phaseOf 1 2 = 0");
        edge.play(TURNS, "phaseOf 0 2 = 1 | pass 1 | phaseOf 1 2 = 0 | pass 1 | phaseOf 1 2 = 1 | phaseOf 0 2 = 1 | pass 4"
            + " | phaseOf 0 2 = 1 | pass 1 | phaseOf 0 2 = 2 | pass 5 | phaseOf 1 2 = 2");
    }

    private static void taken() {
        edge.promise("promise 23");
        edge.says("NONE: signal; BAD: k; CAST");
        edge.refused("", "taken 0 0 = NONE | taken -1 5 = NONE");
        edge.refused(State.SET_UP, "taken 4 0 = NONE | taken -1 0 = NONE | taken MIN 0 = NONE | taken MAX 0 = NONE | taken 4 -1 = NONE"
            + " | taken -1 5 = NONE | taken 0 -1 = BAD | taken 0 5 = BAD"
            + " | taken 1 MIN = BAD | taken 1 MAX = BAD | taken 0 4 = CAST | taken 1 1 = CAST | taken 1 2 = CAST | taken 1 3 = CAST"
            + " | taken 2 3 = CAST | taken 2 4 = CAST"
            + " | taken 3 2 = CAST | taken 3 3 = CAST | taken 3 4 = CAST");
        edge.says("sort k (0 any, 1 one with wheels, 2 one with a motor, 3 CARS, 4 WALK): its KIND");
        edge.play(State.SET_UP, "taken 0 0 = 0 | taken 1 0 = 1 | taken 2 0 = 2 | taken 3 0 = 3 | taken 0 1 = 0 | taken 2 1 = 2"
            + " | taken 3 1 = 3 | taken 0 2 = 0 | taken 2 2 = 2 | taken 0 3 = 0 | taken 1 4 = 1");
        edge.play("7 * signal 0 0 | signal 3 0 | taken 7 0 = 3 | taken 7 3 = CAST | taken 8 0 = NONE");
    }

    private static void recorded() {
        edge.promise("promise 24");
        edge.says("NONE: what; BAD: there is no i-th");
        edge.refused("", "recorded 0 0 = BAD | recorded 0 -1 = NONE | recorded 0 3 = NONE | recorded -1 0 = BAD | recorded -1 3 = NONE");
        edge.refused(TURNS + " | pass 2", "recorded 1 0 = BAD | recorded -1 0 = BAD | recorded MIN 0 = BAD | recorded MAX 2 = BAD"
            + " | recorded 0 -1 = NONE | recorded 0 3 = NONE | recorded 0 MIN = NONE | recorded 0 MAX = NONE | recorded 1 3 = NONE");
        edge.play(TURNS, "pass 1 | recorded 0 0 = BAD | pass 1 | recorded 0 0 = 0 | recorded 0 1 = 0 | recorded 0 2 = 1"
            + " | recorded 1 0 = BAD | pass 5 | recorded 0 0 = 1 | recorded 0 1 = 5 | recorded 0 2 = 6 | recorded 1 0 = 0"
            + " | recorded 2 0 = BAD");
        edge.says("that THE RECORD keeps (the latest 24)");
        edge.refused(TURNS + " | pass 99 | pass 99", "recorded 24 0 = BAD | recorded -1 0 = BAD | recorded 24 3 = NONE");
        // the 40th green ended in 196
        edge.play(TURNS + " | pass 99 | pass 99", "recorded 0 1 = 195 | recorded 0 2 = 196 | recorded 0 0 = 1 | recorded 23 1 = 80"
            + " | recorded 23 0 = 0 | recorded 22 1 = 85 | recorded 24 1 = BAD");
    }

    private static void greens() {
        edge.promise("promise 25");
        edge.says("NONE");
        edge.refused("", "greens 0 0 = NONE | greens -1 0 = NONE");
        edge.refused(State.STARTED, "greens 4 0 = NONE | greens -1 0 = NONE | greens MIN 0 = NONE | greens MAX 0 = NONE"
            + " | greens 0 -1 = NONE | greens 0 4 = NONE | greens 0 MIN = NONE | greens 0 MAX = NONE | greens 4 4 = NONE");
        edge.says("how 0 how many, 1 how long together, 2 the shortest, 3 the longest (2, 3: -5: none)");
        edge.play(TURNS, "greens 0 0 = 0 | greens 0 1 = 0 | greens 0 2 = NEVER | greens 0 3 = NEVER | pass 1 | greens 0 0 = 0"
            + " | greens 0 2 = NEVER | pass 1 | greens 0 0 = 1 | greens 0 1 = 1 | greens 0 2 = 1 | greens 0 3 = 1",
            "greens 1 0 = 0 | greens 1 1 = 0 | greens 1 2 = NEVER | greens 1 3 = NEVER | tell 0 1 4 | tell 0 0 4 | pass 13"
                + " | greens 0 0 = 2 | greens 0 1 = 5 | greens 0 2 = 1 | greens 0 3 = 4 | greens 1 0 = 1");
        edge.play("text 'ba1*4/4~1@60;ba1*1/1~1@60' | read | phase 1 0 | phase 2 0 | start", "pass 5 | greens 0 2 = 4 | greens 0 3 = 4"
            + " | tell 0 0 1 | tell 0 1 1 | pass 10 | greens 0 0 = 2 | greens 0 1 = 5 | greens 0 2 = 1 | greens 0 3 = 4");
        edge.says("that THE RECORD keeps");
        edge.play("text 'ba1*4/4~1@60;ba1*1/1~1@60' | read | phase 1 0 | phase 2 0 | start | pass 5 | tell 0 0 1 | tell 0 1 1",
            "pass 99 | pass 16 | count 6 = 24 | greens 0 0 = 12 | greens 0 1 = 15 | greens 0 3 = 4 | pass 4 | greens 0 3 = 4 | pass 1"
                + " | count 6 = 24 | greens 0 0 = 12 | greens 0 1 = 12 | greens 0 3 = 1 | greens 1 0 = 12");
    }

    /** A green told from 10 to 20 takes the cell from the first of these seconds to the last. */
    private static void takes(char kind, int cell, int first, int last) {
        String could = "could " + cell + " ";
        edge.play("text '" + kind + "a1b1c1d1e1f1g1h1' | read | green 0 10 20", could + (first - 1) + " 1 = 0 | " + could + first + " 1 = 1"
            ,
            could + last + " 1 = 1 | " + could + (last + 1) + " 1 = 0");
    }

    private static void could() {
        edge.promise("promise 26");
        edge.says("NONE: by; BAD; a CELL in a SECOND (0 .. 9999)");
        String refused = "could 0 0 -1 = NONE | could 0 0 2 = NONE | could 0 0 MIN = NONE | could 0 0 MAX = NONE | could -1 0 2 = NONE"
            + " | could 0 -1 -1 = NONE | could -1 0 0 = BAD | could 64 0 0 = BAD"
            + " | could -1 0 1 = BAD | could 64 0 1 = BAD | could MIN 0 0 = BAD | could MAX 0 1 = BAD | could 0 -1 0 = BAD"
            + " | could 0 10000 0 = BAD | could 0 -1 1 = BAD | could 0 10000 1 = BAD"
            + " | could 0 MIN 0 = BAD | could 0 MAX 1 = BAD";
        edge.refused("", refused);
        edge.refused(State.STARTED, refused);
        edge.play("could 0 0 0 = 0 | could 63 9999 0 = 0 | could 0 0 1 = 0 | could 63 9999 1 = 0 | signal 0 63 | signal 0 0 | green 0 0 1"
            + " | green 1 9998 9999",
            "could 63 0 1 = 1 | could 63 4 1 = 1 | could 63 5 1 = 0 | could 0 9997 1 = 0 | could 0 9998 1 = 2 | could 0 9999 1 = 2"
                + " | could 0 0 1 = 0 | could 0 9999 0 = 0");
        edge.says("from BEGAN, and PACE times i more, on, up to END, AMBER, and PACE times (i and 1), together (not in that SECOND itself)"
            );
        takes('c', 0, 10, 23);
        takes('c', 1, 11, 24);
        takes('c', 7, 17, 30);
        takes('w', 0, 10, 24);
        takes('w', 1, 13, 27);
        takes('w', 7, 31, 45);
        takes('t', 0, 10, 25);
        takes('t', 1, 12, 27);
        takes('t', 7, 24, 39);
        takes('b', 0, 10, 22);
        takes('b', 1, 11, 23);
        takes('b', 7, 17, 29);
        edge.says("SIGNALS (bits)");
        edge.play(EIGHT + " | green 7 0 9 | green 0 5 6", "could 5 4 1 = 128 | could 5 5 1 = 129 | could 5 9 1 = 129 | could 5 10 1 = 128"
            + " | could 5 12 1 = 128 | could 5 13 1 = 0 | could 4 5 1 = 0");
        edge.says("two GREENS of one SIGNAL");
        edge.play("signal 0 0 | green 0 0 1 | green 0 6 7", "could 0 4 1 = 1 | could 0 5 1 = 0 | could 0 6 1 = 1 | could 0 10 1 = 1"
            + " | could 0 11 1 = 0");
        edge.says("no GREENS told any more");
        edge.play("signal 0 0 | green 0 0 1 | could 0 0 1 = 1 | green -1 0 0 = 0 | could 0 0 1 = 0");
    }

    private static void couldByTheRecord() {
        edge.promise("promise 26");
        edge.says("by 0 THE RECORD and what is GREEN now; without an END: for ever");
        edge.play("text 'ta1b1;wb1' | read | phase 1 0 | phase 2 0 | start", "could 0 0 0 = 0 | pass 1 | could 0 0 0 = 1"
            + " | could 0 9999 0 = 1 | could 1 0 0 = 0 | could 1 1 0 = 0 | could 1 2 0 = 1 | could 1 9999 0 = 1 | could 0 0 1 = 0",
            "come 1 1 | pass 5 | told 1 = 1 | of 0 8 = 5 | could 0 0 0 = 1 | could 0 10 0 = 1 | could 0 11 0 = 0 | could 1 1 0 = 0"
                + " | could 1 2 0 = 1 | could 1 12 0 = 1 | could 1 13 0 = 0 | could 1 9999 0 = 0",
            "clear 0 1 = 9 | pass 8 | told 7 = 0 | pass 1 | told 7 = 2 | of 1 7 = 14 | could 1 13 0 = 0 | could 1 14 0 = 2"
                + " | could 1 9999 0 = 2 | could 1 12 0 = 1 | could 0 14 0 = 0");
        edge.says("the latest 24 GREENS alone");
        edge.play(TURNS, "pass 99 | pass 18 | count 6 = 24 | could 0 0 0 = 1 | could 0 3 0 = 1 | could 0 4 0 = 0 | could 0 5 0 = 2"
            + " | pass 4 | could 0 0 0 = 1 | could 0 120 0 = 1 | pass 1 | told 0 = 122 | could 0 0 0 = 0 | could 0 5 0 = 2"
            + " | could 0 120 0 = 1 | could 0 123 0 = 1 | could 0 124 0 = 0");
    }

    private static void crowded() {
        String refused = "crowded 0 -1 = NONE | crowded 0 2 = NONE | crowded 0 MIN = NONE | crowded 0 MAX = NONE | crowded -1 2 = NONE"
            + " | crowded 10000 -1 = NONE | crowded -1 0 = BAD | crowded -1 1 = BAD"
            + " | crowded 10000 0 = BAD | crowded 10000 1 = BAD | crowded MIN 0 = BAD | crowded MAX 1 = BAD";
        edge.promise("promise 27");
        edge.says("NONE: by; BAD; a SECOND (0 .. 9999)");
        edge.refused("", refused);
        edge.refused(State.STARTED, refused);
        edge.play("crowded 0 0 = NEVER | crowded 9999 0 = NEVER | crowded 0 1 = NEVER | crowded 9999 1 = NEVER | signal 0 63"
            + " | signal 0 63 | green 0 0 1 | green 1 0 1 | green 0 9998 9999 | green 1 9998 9999",
            "crowded 0 1 = 63 | crowded 4 1 = 63 | crowded 5 1 = NEVER | crowded 9997 1 = NEVER | crowded 9999 1 = 63"
                + " | crowded 0 0 = NEVER");
        edge.says("the first CELL that two SIGNALS or more COULD TAKE");
        edge.play("text 'ch8a1;wa1h8' | read | green 0 10 11 | green 1 11 12", "could 63 10 1 = 1 | could 0 10 1 = 0"
            + " | crowded 10 1 = NEVER | crowded 11 1 = 0 | crowded 13 1 = 0 | crowded 14 1 = 0 | could 63 14 1 = 3",
            "could 0 15 1 = 3 | crowded 15 1 = 0 | could 0 16 1 = 2 | could 63 15 1 = 2 | crowded 16 1 = NEVER");
        edge.says("in the first and the last SECOND in which both could");
        edge.play("text 'ca1;ca1' | read | green 0 10 20 | green 1 23 30", "crowded 22 1 = NEVER | crowded 23 1 = 0"
            + " | crowded 24 1 = NEVER | green -1 0 0 | green 0 10 20 | green 1 24 30 | crowded 23 1 = NEVER | crowded 24 1 = NEVER");
        edge.says("three, and one twice");
        edge.play("text 'ca1;ca1;ca1' | read | green 0 0 9 | green 0 0 9 | green 0 5 9 | crowded 5 1 = NEVER | green 1 0 9 | green 2 0 9"
            + " | could 0 0 1 = 7 | crowded 0 1 = 0 | crowded 12 1 = 0 | crowded 13 1 = NEVER");
        edge.says("by 0 THE RECORD and what is GREEN now");
        edge.play("text 'ca1;ca1' | read | safety 0 | phase 1 0 | phase 2 0 | start | come 1 1 | pass 10", "clear 0 1 = 4 | of 1 7 = 9"
            + " | could 0 8 0 = 1 | could 0 9 0 = 2 | crowded 8 0 = NEVER | crowded 9 0 = NEVER");
    }

    private static void green() {
        edge.promise("promise 28");
        edge.says("BAD: from (0 .. 9998), to (above from; 9999 at most)");
        edge.play("signal 0 0 | green 0 0 1 = 1 | green 0 9998 9999 = 2 | green 0 0 9999 = 3 | green 0 9997 9998 = 4 | green 0 1 2 = 5");
        edge.refused(State.SET_UP, "green 0 -1 5 = BAD | green 0 MIN 5 = BAD | green 0 9999 10000 = BAD | green 0 9999 9999 = BAD"
            + " | green 0 9999 5 = BAD | green 0 10000 10001 = BAD | green 0 MAX 5 = BAD | green 0 MAX MIN = BAD"
            + " | green 0 0 0 = BAD | green 0 5 5 = BAD | green 0 5 4 = BAD | green 0 9998 9998 = BAD | green 0 0 -1 = BAD"
            + " | green 0 0 10000 = BAD | green 0 9998 10000 = BAD | green 0 0 MIN = BAD | green 0 0 MAX = BAD | green 3 -1 0 = BAD");
        edge.says("NONE; BAD; FULL");
        edge.refused("", "green 0 0 1 = NONE | green -2 0 1 = NONE | green 0 -1 -1 = NONE");
        edge.refused(State.SET_UP, "green 4 0 1 = NONE | green 8 0 1 = NONE | green -2 0 1 = NONE | green MIN 0 1 = NONE"
            + " | green MAX 0 1 = NONE | green 4 -1 1 = NONE | green -2 0 0 = NONE");
        edge.refused(State.STARTED, "green 4 0 1 = NONE | green 0 0 0 = BAD");
        edge.says("FULL: 8");
        edge.play("signal 0 0 | 7 * green 0 3 9 | count 3 = 7 | green 0 20 21 = 8 | green 0 30 31 = FULL | count 3 = 8 | could 0 20 1 = 1"
            + " | could 0 30 1 = 0");
        edge.refused("signal 0 0 | 8 * green 0 0 1", "green 0 0 1 = FULL | green 0 9998 9999 = FULL | green 0 1 1 = BAD"
            + " | green 0 0 10000 = BAD | green 1 0 1 = NONE | green -2 0 1 = NONE");
        edge.says("(signal -1: none then, 0, whatever the others are)");
        edge.play("green -1 0 0 = 0 | signal 0 0 | 8 * green 0 0 1 | green -1 MIN MAX = 0 | count 3 = 0 | green 0 0 1 = 1"
            + " | green -1 0 1 = 0 | green -1 -1 -1 = 0 | count 3 = 0 | proved = NEVER");
        edge.play(EIGHT, "green 7 0 1 = 1 | green 8 0 1 = NONE | could 5 0 1 = 128");
    }

    private static void proved() {
        edge.promise("promise 29");
        edge.says("-5: none");
        edge.play("proved = NEVER | signal 0 0 | signal 0 0 | proved = NEVER | green 0 0 5 | proved = NEVER | green 0 0 5"
            + " | proved = NEVER | green 1 5 6 | proved = 2");
        edge.says("CLEAR (of the other one to it) or more SECONDS behind the other's END: cars to walk 5, walk to cars 6");
        String two = "signal 0 0 | signal 1 0 | clear 0 1 = 5 | clear 1 0 = 6";
        edge.play(two, "green 0 10 20 | green 1 25 30 | proved = NEVER | green -1 0 0 | green 0 10 20 | green 1 24 30 | proved = 1"
            + " | green -1 0 0 | green 0 10 20 | green 1 26 30 | proved = NEVER");
        edge.play(two, "green 1 10 20 | green 0 26 30 | proved = NEVER | green -1 0 0 | green 1 10 20 | green 0 25 30 | proved = 1"
            + " | green -1 0 0 | green 1 10 20 | green 0 27 30 | proved = NEVER");
        edge.says("neither begins so: the later row may be the earlier GREEN");
        edge.play(two, "green 1 25 30 | green 0 10 20 | proved = NEVER | green -1 0 0 | green 1 24 30 | green 0 10 20 | proved = 1");
        edge.play(two, "green 0 26 30 | green 1 10 20 | proved = NEVER | green -1 0 0 | green 0 25 30 | green 1 10 20 | proved = 1");
        edge.says("the first row for which there's one ahead of it");
        edge.play(two, "green 0 0 10 | green 1 15 20 | green 0 26 30 | green 1 35 40 | green 0 46 50 | green 1 55 60 | green 0 66 70"
            + " | proved = NEVER | green 1 74 80 | proved = 7");
        edge.play(two, "green 0 0 10 | green 1 15 20 | green 0 26 30 | green 1 35 40 | green 0 46 50 | green 1 55 60 | green 0 66 70"
            + " | green 1 75 80 | proved = NEVER");
        edge.play(two, "green 0 100 110 | green 1 15 20 | green 0 26 30 | green 1 105 106 | green 1 27 28 | proved = 3");
        edge.play(two, "green 1 90 91 | green 0 0 10 | green 0 50 60 | green 1 14 20 | proved = 3");
        edge.says("whose SIGNAL it MEETS");
        edge.play("text 'ca1;ca2;ca1a2' | read | green 0 0 10 | green 1 0 10 | green 0 5 15 | proved = NEVER | green 2 0 10 | proved = 3");
        edge.says("by SAFETY");
        edge.play(two, "green 0 10 20 | green 1 25 30 | proved = NEVER | safety 2 | proved = 1 | safety 0 | proved = NEVER");
        edge.says("to 9999");
        edge.play(two, "green 0 0 9993 | green 1 9998 9999 | proved = NEVER | green -1 0 0 | green 0 0 9994 | green 1 9998 9999"
            + " | proved = 1");
    }
}
