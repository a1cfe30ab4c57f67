/** Boundaries of promises 36 to 45: what would be, plans. */
public final class EdgesThoughtTest {
    private static final Edge edge = new Edge("EdgesThoughtTest");
    /** Cars 0 and 1 meet; each has a phase of its own. */
    private static final String CARS = "signal 0 0 | signal 0 0 | phase 1 0 | phase 2 0 | start = 2";
    /** Bikes 0 and 1 meet, least 1; both have come once: by a gap of g 0 is green to g, 1 is from g and 4 on. */
    private static final String BY_GAP = "signal 3 0 | signal 3 0 | tell 0 0 1 | tell 1 0 1 | phase 1 0 | phase 2 0 | start | come 0 1"
        + " | come 1 1";

    public static void main(String[] args) {
        would();
        turns();
        best();
        note();
        fits();
        day();
        chance();
        mean();
        plan();
        ends();
        endsByEmergencies();
        counted();
        edge.end();
    }

    private static void would() {
        edge.promise("promise 36");
        edge.says("n SECONDS (0 .. 99): told(what) then");
        edge.play(CARS, "would 0 0 = 0 | would 1 0 = 1 | would 99 0 = 99 | would 98 0 = 98 | told 0 = 0 | would 0 7 = 0 | would 1 7 = 1"
            + " | told 7 = 0 | count 5 = 199");
        edge.play(CARS, "pass 99 | would 99 0 = 198 | would 0 0 = 99 | told 0 = 99");
        edge.play(CARS, "come 1 1 | would 5 1 = 0 | would 6 1 = 1 | would 6 8 = 1 | would 8 8 = 0 | would 10 7 = 0 | would 11 7 = 2"
            + " | would 10 4 = 10 | would 11 4 = 10 | would 11 5 = 1 | would 10 5 = 0 | would 11 18 = 0 | would 0 18 = 1 | told 4 = 0"
            + " | told 1 = 0");
        edge.says("in thought SECONDS PASS as they would: of the last SIGNALS, by a FORCE, by an EMERGENCY");
        edge.play("6 * signal 0 9 | signal 1 0 | signal 0 0 | phase 64 0 | phase 128 0 | start | come 7 1",
            "clear 6 7 = 6 | would 11 7 = 0 | would 12 7 = 128 | turns 7 99 = 11 | turns 7 11 = NEVER | pass 11 | told 7 = 0 | pass 1"
                + " | told 7 = 128");
        edge.play("signal 3 0 | signal 3 0 | tell 0 0 1 | tell 1 0 1 | tell 1 3 60 | phase 1 0 | phase 2 10 | start | cycle 20 0 1",
            "would 10 1 = 1 | would 11 1 = 0 | pass 10 | told 1 = 1 | would 1 1 = 0 | pass 1 | told 1 = 0");
        edge.play(CARS, "emergency 1 | would 1 1 = 1 | would 1 2 = 0 | would 1 3 = 1 | told 1 = 0 | told 2 = NEVER | over | would 1 1 = 0");
        edge.says("NONE; BAD; STATE: not STARTED; FULL");
        String none = "would 0 -1 = NONE | would 0 19 = NONE | would 0 MIN = NONE | would 0 MAX = NONE | would -1 19 = NONE"
            + " | would 100 -1 = NONE";
        String bad = "would -1 0 = BAD | would 100 0 = BAD | would MIN 0 = BAD | would MAX 18 = BAD";
        edge.refused("", none + " | " + bad + " | would 0 0 = STATE | would 99 18 = STATE");
        edge.refused(State.SET_UP, none + " | " + bad + " | would 0 0 = STATE | would 1 0 = STATE | would 99 18 = STATE");
        edge.refused(State.SET_UP + State.ALL_COUNTED, "would 1 0 = STATE");
        edge.refused(State.STARTED, none + " | " + bad);
        edge.refused(State.STARTED + State.COUNTED_BEHIND_STARTED, none + " | " + bad + " | would 1 0 = FULL | would 99 18 = FULL");
        edge.says("told(what), 0 .. 18");
        edge.play(CARS, "cycle 20 0 1 | would 19 15 = 19 | would 20 15 = 0 | would 0 15 = 0 | would 99 12 = 20 | would 99 13 = 0"
            + " | would 99 14 = 1 | would 99 16 = 2 | would 99 17 = 2 | would 99 11 = 1 | would 99 10 = 1");
    }

    private static void turns() {
        edge.promise("promise 37");
        edge.says("n SECONDS (0 .. 99): that SECOND; -5: none");
        edge.play(CARS, "turns 0 0 = NEVER | turns 0 1 = 0 | turns 0 99 = 0 | turns 1 99 = NEVER | come 1 1 | turns 1 11 = 10"
            + " | turns 1 10 = NEVER | turns 1 99 = 10 | told 0 = 0 | told 7 = 0");
        edge.play(CARS, "come 1 1 | pass 10 | turns 1 0 = NEVER | turns 1 1 = 10 | pass 1 | turns 1 0 = NEVER | turns 1 1 = 11"
            + " | turns 0 99 = NEVER");
        edge.play(CARS, "come 1 1 | pass 5 | turns 0 1 = NEVER | turns 1 5 = NEVER | turns 1 6 = 10");
        edge.says("the last of 99 SECONDS");
        String most = "signal 3 0 | signal 3 0 | tell 0 0 1 | tell 0 3 60 | phase 1 0 | phase 2 0 | start | come 1 1";
        edge.play(most, "tell 0 1 94 | turns 1 99 = 98 | turns 1 98 = NEVER | tell 0 1 95 | turns 1 99 = NEVER | pass 1 | turns 1 99 = 99");
        edge.says("NONE; BAD; STATE: not STARTED; FULL");
        String none = "turns 4 0 = NONE | turns -1 0 = NONE | turns MIN 0 = NONE | turns MAX 0 = NONE | turns 4 -1 = NONE"
            + " | turns -1 100 = NONE";
        String bad = "turns 0 -1 = BAD | turns 0 100 = BAD | turns 3 MIN = BAD | turns 3 MAX = BAD";
        edge.refused("", "turns 0 0 = NONE | turns 0 100 = NONE");
        edge.refused(State.SET_UP, none + " | " + bad + " | turns 0 0 = STATE | turns 3 99 = STATE");
        edge.refused(State.SET_UP + State.ALL_COUNTED, "turns 0 1 = STATE");
        edge.refused(State.STARTED, none + " | " + bad);
        edge.refused(State.STARTED + State.COUNTED_BEHIND_STARTED, none + " | " + bad + " | turns 0 1 = FULL | turns 3 99 = FULL");
        edge.play("8 * signal 0 0 | phase 128 0 | start | turns 7 0 = NEVER | turns 7 1 = 0 | turns 8 1 = NONE | turns 0 99 = NEVER");
    }

    private static void bestGap(int gap, int rate, int seed, int waited) {
        String setup = "signal 0 0 | signal 2 0 | phase 1 0 | phase 2 0 | tell 0 0 1 | tell 0 3 " + rate + " | tell 1 0 20 | start | come 1 1"
            + " | seed " + seed;
        edge.play(setup, "best 60 0 = " + gap + " | best 60 1 = " + waited + " | of 0 3 = 3 | told 4 = 0");
        edge.play(setup, "tell 0 2 " + gap + " | tell 1 2 " + gap + " | pass 60 | told 4 = " + waited);
    }

    private static void best() {
        edge.promise("promise 38");
        edge.says("n SECONDS (0 .. 60): what 0 the GAP, 1 WAITED then; of like ones the least");
        edge.play(CARS, "best 0 0 = 1 | best 0 1 = 0 | best 60 0 = 1 | best 60 1 = 0 | best 59 0 = 1 | come 1 2 | best 0 0 = 1"
            + " | best 0 1 = 0 | best 1 1 = 2 | best 60 1 = 22 | told 4 = 0 | of 0 3 = 3 | of 1 3 = 3");
        edge.says("that by which WAITED is least");
        // by a gap of g 1 is waited in each of g and 4 seconds
        edge.play(BY_GAP, "best 60 0 = 1 | best 60 1 = 5 | best 5 0 = 1 | best 5 1 = 5 | best 6 1 = 5 | best 4 1 = 4 | best 1 1 = 1"
            + " | of 0 3 = 3");
        edge.play(BY_GAP, "pass 2 | told 4 = 2 | best 60 0 = 1 | best 60 1 = 6 | best 0 0 = 1 | best 0 1 = 2 | best 3 1 = 5 | told 4 = 2");
        edge.says("GAPS 1 .. 9: none below 1, by which it would be less");
        edge.play("signal 0 0 | signal 1 0 | tell 0 0 1 | phase 1 0 | phase 2 0 | start | come 0 2 | come 1 20", "best 9 0 = 1"
            + " | best 9 1 = 162");
        edge.says("by each GAP, found by trying seeds: by all others more is WAITED");
        int[] seeds = {7, 30, 33, 85, 167, 14, 4, 16, 1};
        int[] rates = {12, 12, 12, 12, 12, 6, 12, 12, 12};
        int[] waited = {61, 215, 77, 157, 91, 140, 76, 58, 89};
        for (int k = 0; k < 9; k++) {
            bestGap(k + 1, rates[k], seeds[k], waited[k]);
        }
        edge.says("NONE; BAD; STATE: not STARTED; FULL");
        String none = "best 0 -1 = NONE | best 0 2 = NONE | best 0 MIN = NONE | best 0 MAX = NONE | best -1 2 = NONE | best 61 -1 = NONE";
        String bad = "best -1 0 = BAD | best 61 0 = BAD | best 99 1 = BAD | best MIN 0 = BAD | best MAX 1 = BAD";
        edge.refused("", none + " | " + bad + " | best 0 0 = STATE | best 60 1 = STATE");
        edge.refused(State.SET_UP, none + " | " + bad + " | best 0 0 = STATE | best 60 1 = STATE");
        edge.refused(State.SET_UP + State.ALL_COUNTED, "best 1 0 = STATE");
        edge.refused(State.STARTED, none + " | " + bad);
        edge.refused(State.STARTED + State.COUNTED_BEHIND_STARTED, none + " | " + bad + " | best 1 0 = FULL | best 60 1 = FULL");
    }

    private static void note() {
        edge.promise("promise 39");
        edge.says("BAD: second (0 .. 99999), set (0 .. 255)");
        edge.play("note 0 0 = 1 | note 99999 255 = 2 | note 99998 254 = 3 | note 1 1 = 4 | count 1 = 4");
        String bad = "note -2 0 = BAD | note 100000 0 = BAD | note MIN 0 = BAD | note MAX 0 = BAD | note 0 -1 = BAD | note 0 256 = BAD"
            + " | note 0 MIN = BAD | note 0 MAX = BAD | note 100000 256 = BAD";
        edge.refused("", bad);
        edge.refused(State.SET_UP, bad);
        edge.refused(State.STARTED, bad);
        edge.says("FULL: 5");
        edge.play("4 * note 3 3 | count 1 = 4 | note 9 9 = 5 | count 1 = 5 | note 9 9 = FULL | note -1 0 = 0 | note 9 9 = 1");
        edge.refused("5 * note 3 3", "note 3 3 = FULL | note 0 0 = FULL | note 99999 255 = FULL | " + bad);
        edge.says("(second -1: none then, 0, whatever the other is)");
        edge.play("note -1 0 = 0 | note 3 3 | note -1 MIN = 0 | count 1 = 0 | 5 * note 3 3 | note -1 256 = 0 | count 1 = 0 | note 3 3 = 1"
            + " | note -1 -1 = 0 | note -1 MAX = 0 | count 1 = 0");
    }

    private static void fitting(String notes, int many, int least) {
        edge.play(BY_GAP + " | " + notes, "fits 0 = " + many + " | fits 1 = " + (many == 0 ? "NEVER" : Integer.toString(least)),
            "of 0 3 = 3 | told 0 = 0 | count 5 = 1080");
    }

    private static void fits() {
        edge.promise("promise 40");
        edge.says("how many GAPS 1 .. 9 there are; the least (-5: none)");
        fitting("note 5 1", 4, 6);
        fitting("note 5 0", 4, 2);
        fitting("note 5 2", 1, 1);
        fitting("note 8 1", 1, 9);
        fitting("note 9 1", 0, -5);
        fitting("note 0 1", 9, 1);
        fitting("note 1 1", 8, 2);
        fitting("note 1 0", 1, 1);
        fitting("note 13 2", 9, 1);
        fitting("note 12 2", 8, 1);
        fitting("note 12 0", 1, 9);
        fitting("note 5 3", 0, -5);
        fitting("note 0 0", 0, -5);
        fitting("note 0 129", 0, -5);
        edge.says("all NOTES would be so");
        fitting("note 5 1 | note 8 0", 3, 6);
        fitting("note 8 0 | note 5 1", 3, 6);
        fitting("note 5 1 | note 5 1", 4, 6);
        fitting("note 5 1 | note 5 0", 0, -5);
        fitting("note 5 1 | note 6 1 | note 7 1 | note 8 0 | note 11 0", 1, 8);
        fitting("note 5 1 | note 6 1 | note 7 1 | note 8 0 | note 11 2", 0, -5);
        edge.says("without NOTES");
        fitting("note -1 0", 9, 1);
        edge.says("60 SECONDS passing from now on (one of a SECOND that is past, or beyond, never is)");
        fitting("note 59 2", 9, 1);
        fitting("note 60 2", 0, -5);
        fitting("note 99999 2", 0, -5);
        edge.play(CARS, "pass 10 | note 10 1 | fits 0 = 9 | note -1 0 | note 9 1 | fits 0 = 0 | fits 1 = NEVER | note -1 0 | note 69 1"
            + " | fits 0 = 9 | fits 1 = 1 | note -1 0 | note 70 1 | fits 0 = 0 | note -1 0 | note 0 1 | fits 0 = 0 | note -1 0"
            + " | note 11 1 | fits 0 = 9");
        edge.says("SIGNALS GREEN as it had PASSED (bits)");
        edge.play("text 'ca1;ca2;ca3;ca4' | read | text 'ca5;ca6;ca7;ca8' | read | phase 255 0 | phase 1 0 | start | note 0 255"
            + " | fits 0 = 9 | note -1 0 | note 0 254 | fits 0 = 0 | note -1 0 | note 59 255 | fits 1 = 1");
        edge.says("NONE; STATE: not STARTED; FULL");
        String none = "fits -1 = NONE | fits 2 = NONE | fits MIN = NONE | fits MAX = NONE";
        edge.refused("", none + " | fits 0 = STATE | fits 1 = STATE");
        edge.refused(State.SET_UP, none + " | fits 0 = STATE | fits 1 = STATE");
        edge.refused(State.SET_UP + State.ALL_COUNTED, "fits 0 = STATE | fits 2 = NONE");
        edge.refused(State.STARTED, none);
        edge.refused(State.STARTED + State.COUNTED_BEHIND_STARTED, none + " | fits 0 = FULL | fits 1 = FULL");
    }

    private static void day() {
        edge.promise("promise 41");
        edge.says("DAY of n SECONDS (0 .. 99): how much more is WAITED");
        edge.play(CARS, "come 1 5 | day 0 0 = 0 | day 0 1 = 5 | day 0 10 = 50 | day 0 11 = 54 | day 0 99 = 70 | pass 3 | told 4 = 15"
            + " | day 0 0 = 0 | day 0 1 = 5 | day 9 99 = 55 | told 4 = 15 | told 10 = 1");
        edge.says("SEED being that");
        String rate = CARS + " | tell 1 3 28";
        edge.play(rate, "day MIN 1 = 0 | day MAX 1 = 0 | day 2147483646 1 = 1 | day -2147483647 1 = 1 | day 0 1 = 1 | day 1 1 = 1"
            + " | day 2 1 = 0 | day -1 1 = 0 | tell 1 3 29 | day MIN 1 = 1 | day MIN 0 = 0 | told 10 = 1");
        edge.says("BAD; STATE: not STARTED; FULL");
        String bad = "day 0 -1 = BAD | day 0 100 = BAD | day MIN MIN = BAD | day MAX MAX = BAD";
        edge.refused("", bad + " | day 0 0 = STATE | day MAX 99 = STATE");
        edge.refused(State.SET_UP, bad + " | day 0 0 = STATE | day MIN 99 = STATE");
        edge.refused(State.SET_UP + State.ALL_COUNTED, "day 0 1 = STATE");
        edge.refused(State.STARTED, bad);
        edge.refused(State.STARTED + State.COUNTED_BEHIND_STARTED, bad + " | day 0 1 = FULL | day 0 99 = FULL");
    }

    /** By a rate of signal 1 that many of m seeds from MAX on draw it, or more: waited is 0 then, else 1. */
    private static void chanceOf(int m, int rate, int above, int below) {
        edge.play(CARS, "tell 1 3 " + rate + " | chance MAX 1 " + m + " 0 0 = " + above + " | chance MAX 1 " + m + " 0 1 = " + below,
            "chance MAX 1 " + m + " 1 0 = 1 | chance MAX 1 " + m + " 1 1 = 1 | count 5 = " + 4 * m + " | told 10 = 1 | told 0 = 0");
    }

    private static void chance() {
        edge.promise("promise 42");
        edge.says("IN m seeds (1 .. 4), seed and each 1 more (an int): of these those by which k at most is: a fraction in lowest terms");
        // by MAX, MIN, MIN and 1, MIN and 2 the draws are 44, 28, 11, 46
        chanceOf(1, 44, 1, 1);
        chanceOf(1, 45, 0, 1);
        chanceOf(2, 28, 1, 1);
        chanceOf(2, 29, 1, 2);
        chanceOf(2, 44, 1, 2);
        chanceOf(2, 45, 0, 1);
        chanceOf(3, 11, 1, 1);
        chanceOf(3, 12, 2, 3);
        chanceOf(3, 29, 1, 3);
        chanceOf(3, 45, 0, 1);
        chanceOf(4, 11, 1, 1);
        chanceOf(4, 28, 3, 4);
        chanceOf(4, 29, 1, 2);
        chanceOf(4, 45, 1, 4);
        chanceOf(4, 47, 0, 1);
        edge.says("n SECONDS (0 .. 99), k (0 .. 99999) at most");
        edge.play(CARS, "come 1 5 | chance 0 1 4 5 0 = 1 | chance 0 1 4 5 1 = 1 | chance 0 1 4 4 0 = 0 | chance 0 1 4 4 1 = 1"
            + " | chance 0 1 4 6 0 = 1 | chance 0 99 1 70 0 = 1 | chance 0 99 1 69 0 = 0 | chance 0 0 4 0 0 = 1 | chance 0 0 1 0 1 = 1",
            "chance 0 1 1 99999 0 = 1 | chance 0 1 1 0 0 = 0 | pass 2 | chance 0 1 4 5 0 = 1 | chance 0 1 4 4 0 = 0");
        edge.says("NO: n, m, k, part, not STARTED, FULL");
        String no = "chance 0 -1 1 0 0 = NO | chance 0 100 1 0 0 = NO | chance 0 MIN 1 0 0 = NO | chance 0 MAX 1 0 0 = NO"
            + " | chance 0 0 0 0 0 = NO | chance 0 0 5 0 0 = NO | chance 0 0 -1 0 0 = NO | chance 0 1 MIN 0 0 = NO"
            + " | chance 0 1 MAX 0 0 = NO"
            + " | chance 0 0 1 -1 0 = NO | chance 0 0 1 100000 0 = NO | chance 0 0 1 MIN 0 = NO | chance 0 0 1 MAX 0 = NO"
            + " | chance 0 0 1 0 -1 = NO | chance 0 0 1 0 2 = NO | chance 0 0 1 0 MIN = NO | chance 0 0 1 0 MAX = NO";
        edge.refused("", no + " | chance 0 0 1 0 0 = NO | chance 0 99 4 99999 1 = NO");
        edge.refused(State.SET_UP, no + " | chance 0 0 1 0 0 = NO | chance 0 1 1 0 0 = NO");
        edge.refused(State.STARTED, no);
        edge.refused(State.STARTED + State.COUNTED_BEHIND_STARTED, no + " | chance 0 1 1 0 0 = NO | chance 0 99 4 0 1 = NO");
    }

    private static void mean() {
        String no = "mean 0 = NO | mean 1 = NO";
        String part = "mean -1 = NO | mean 2 = NO | mean MIN = NO | mean MAX = NO";
        edge.promise("promise 43");
        edge.says("(NO: nobody is)");
        edge.refused("", no + " | " + part);
        edge.refused(State.SET_UP, no + " | " + part);
        edge.refused(CARS + " | come 1 3 | pass 9", no + " | " + part);
        edge.refused(State.STARTED, part);
        edge.says("WAITED by SERVED: a fraction in lowest terms");
        edge.play(CARS, "come 0 1 | pass 1 = 1 | mean 0 = 0 | mean 1 = 1 | come 0 3 | pass 1 = 0 | told 4 = 3 | mean 0 = 3 | mean 1 = 1"
            + " | pass 1 = 1 | told 4 = 5 | mean 0 = 5 | mean 1 = 2 | pass 1 = 0 | told 4 = 7 | mean 0 = 7 | mean 1 = 2",
            "pass 1 = 1 | told 4 = 8 | mean 0 = 8 | mean 1 = 3 | pass 1 | told 4 = 9 | mean 0 = 3 | mean 1 = 1 | pass 1 = 1 | told 4 = 9"
                + " | mean 0 = 9 | mean 1 = 4");
        edge.play("signal 1 0 | phase 1 0 | start | 5 * come 0 20 | pass 1 = 99 | mean 0 = 0 | mean 1 = 1");
        edge.says("as many as are SERVED");
        edge.play("signal 3 0 | phase 1 0 | start | come 0 3 | pass 3 = 3 | told 4 = 3 | mean 0 = 1 | mean 1 = 1 | come 0 1 | pass 1 = 1"
            + " | mean 0 = 3 | mean 1 = 4");
    }

    private static void plan() {
        edge.promise("promise 44");
        edge.says("n (by 0: 0 .. 99, by 1, 3: 0 .. 7; by 2 it does not matter)");
        edge.play("plan 0 0 = 1 | plan 0 99 = 2 | plan 1 0 = 3 | plan 1 7 = 4 | plan 3 0 = 5 | plan 3 7 = 6 | plan 2 MIN = 7"
            + " | plan 2 MAX = 8 | count 2 = 8");
        edge.play("plan 2 -1 = 1 | plan 2 0 = 2 | plan 2 8 = 3 | plan 2 100 = 4");
        String none = "plan 4 0 = NONE | plan -2 0 = NONE | plan MIN 0 = NONE | plan MAX 0 = NONE | plan 4 -1 = NONE | plan -2 100 = NONE";
        String bad = "plan 0 -1 = BAD | plan 0 100 = BAD | plan 0 MIN = BAD | plan 0 MAX = BAD | plan 1 -1 = BAD | plan 1 8 = BAD"
            + " | plan 1 MIN = BAD | plan 1 MAX = BAD | plan 3 -1 = BAD | plan 3 8 = BAD | plan 3 MIN = BAD | plan 3 MAX = BAD";
        edge.says("NONE: what (0 .. 3); BAD: n");
        edge.refused("", none + " | " + bad);
        edge.refused(State.SET_UP, none + " | " + bad);
        edge.refused(State.STARTED, none + " | " + bad);
        edge.says("FULL: 8");
        edge.play("7 * plan 2 0 | count 2 = 7 | plan 0 9 = 8 | plan 0 9 = FULL | count 2 = 8");
        edge.refused("8 * plan 0 3", "plan 0 0 = FULL | plan 1 7 = FULL | plan 2 0 = FULL | plan 3 0 = FULL | " + none + " | " + bad);
        edge.says("(what -1: it is empty then, 0, whatever the other is)");
        edge.play("plan -1 0 = 0 | 8 * plan 0 3 | plan -1 MIN = 0 | count 2 = 0 | plan 0 3 = 1 | plan -1 100 = 0 | count 2 = 0"
            + " | plan -1 -1 = 0 | plan -1 MAX = 0");
    }

    private static void ends() {
        String none = "ends -1 = NONE | ends 2 = NONE | ends MIN = NONE | ends MAX = NONE";
        edge.promise("promise 45");
        edge.says("NONE; STATE: not STARTED; FULL");
        edge.refused("", none + " | ends 0 = STATE | ends 1 = STATE");
        edge.refused(State.SET_UP, none + " | ends 0 = STATE | ends 1 = STATE");
        edge.refused(State.SET_UP + State.ALL_COUNTED, "ends 0 = STATE | ends 2 = NONE");
        edge.refused(State.STARTED, none);
        edge.refused(State.STARTED + State.COUNTED_BEHIND_STARTED, none + " | ends 0 = FULL | ends 1 = FULL");
        edge.says("what 0 WAITED, 1 SERVED: of a PLAN that is empty, or takes no SECONDS");
        edge.play(CARS, "come 0 3 | pass 1 | told 4 = 2 | told 5 = 1 | ends 0 = 2 | ends 1 = 1 | plan 0 0 | ends 0 = 2 | ends 1 = 1"
            + " | 7 * plan 0 0 | ends 0 = 2 | ends 1 = 1 | count 5 = 1");
        edge.says("0 n SECONDS PASS: 8 rows at most");
        edge.play(CARS, "come 1 1 | plan 0 99 | ends 0 = 10 | ends 1 = 1 | count 5 = 198 | 7 * plan 0 99 | ends 0 = 10 | ends 1 = 1"
            + " | count 5 = 1782 | told 0 = 0 | told 5 = 0 | of 1 5 = 1");
        edge.play(CARS, "come 1 1 | plan 0 10 | ends 1 = 0 | plan 0 0 | ends 1 = 0 | plan 0 1 | ends 1 = 1 | ends 0 = 10");
        edge.says("3 SIGNAL n has no QUEUE any more");
        edge.play(CARS, "come 1 5 | plan 0 2 | plan 3 1 | plan 0 99 | ends 0 = 10 | ends 1 = 0 | plan -1 0 | plan 3 0 | plan 3 7"
            + " | plan 3 2 | plan 0 2 | ends 0 = 10 | plan 3 1 | plan 0 1 | ends 0 = 10 | of 1 5 = 5");
        edge.says("its n is no SIGNAL");
        edge.play(CARS, "come 1 5 | plan 1 2 | plan 1 7 | plan 3 7 | plan 0 1 | ends 0 = 5 | ends 1 = 0 | told 3 = NEVER");
        edge.play("8 * signal 3 0 | phase 128 0 | start | come 7 9 | plan 0 1 | plan 3 7 | plan 0 9 | ends 0 = 8 | ends 1 = 1");
    }

    private static void endsByEmergencies() {
        edge.promise("promise 45");
        edge.says("1 SIGNAL n is an EMERGENCY, if there's none, and a PHASE has it");
        String three = "signal 3 0 | signal 3 0 | signal 3 0 | phase 1 0 | phase 2 0 | start | come 1 9";
        edge.play(three, "plan 1 1 | plan 0 2 | ends 1 = 2 | ends 0 = 15 | told 3 = NEVER | told 2 = NEVER | told 1 = 0");
        edge.play(three, "plan 1 2 | plan 0 2 | ends 1 = 0 | plan -1 0 | plan 1 3 | plan 1 7 | plan 0 2 | ends 1 = 0");
        edge.play(three, "plan 1 1 | plan 1 0 | plan 0 2 | ends 1 = 2 | plan -1 0 | plan 1 0 | plan 1 1 | plan 0 2 | ends 1 = 0");
        edge.play(three, "emergency 0 | plan 1 1 | plan 0 2 | ends 1 = 0 | told 3 = 0");
        edge.says("2 the EMERGENCY is over, if there's one");
        edge.play(three, "plan 2 0 | plan 2 9 | plan 0 2 | ends 1 = 0 | plan -1 0 | plan 1 0 | plan 2 0 | plan 1 1 | plan 0 2"
            + " | ends 1 = 2");
        edge.play(three, "emergency 0 | plan 2 0 | plan 1 1 | plan 0 2 | ends 1 = 2 | told 3 = 0 | over = 0 | ends 1 = 2 | told 3 = NEVER");
        edge.play(three, "emergency 0 | plan 2 0 | plan 2 0 | plan 0 9 | ends 1 = 0 | plan 0 1 | ends 1 = 1");
    }

    /** So many seconds are left of 12000. */
    private static String left(int seconds) {
        int tunes = (12000 - seconds) / 200;
        int rest = 12000 - seconds - 200 * tunes;
        return CARS + " | " + tunes + " * tune | pass " + Math.min(rest, 99) + " | pass " + Math.min(Math.max(rest - 99, 0), 99) + ""
            + " | pass " + Math.max(rest - 198, 0) + " | count 5 = " + (12000 - seconds);
    }

    private static void counted() {
        edge.promise("answers");
        edge.says("SECONDS are counted, those in thought too; what would be more is FULL (and isn't counted)");
        edge.play(left(99), "would 99 4 = 0 | count 5 = 12000 | would 1 4 = FULL | would 0 4 = 0");
        edge.play(left(98), "would 99 4 = FULL | count 5 = 11902 | would 98 4 = 0 | count 5 = 12000");
        edge.play(left(99), "turns 1 99 = NEVER | count 5 = 12000 | turns 0 1 = FULL | turns 0 0 = NEVER");
        edge.play(left(98), "turns 0 99 = FULL | count 5 = 11902 | turns 1 98 = NEVER | count 5 = 12000");
        edge.play(left(99), "day 1 99 = 0 | count 5 = 12000 | day 1 1 = FULL | day 1 0 = 0");
        edge.play(left(98), "day 1 99 = FULL | count 5 = 11902 | day 1 98 = 0 | count 5 = 12000");
        edge.says("by best 9 n");
        edge.play(left(540), "best 60 0 = 1 | count 5 = 12000 | best 1 0 = FULL | best 0 0 = 1 | best 0 1 = 0");
        edge.play(left(539), "best 60 0 = FULL | count 5 = 11461 | best 59 0 = 1 | count 5 = 11992 | best 1 0 = FULL | count 5 = 11992");
        edge.play(left(9), "best 1 1 = 0 | count 5 = 12000");
        edge.play(left(8), "best 1 1 = FULL | count 5 = 11992 | pass 8 | count 5 = 12000");
        edge.says("by fits 540");
        edge.play(left(540), "fits 0 = 9 | count 5 = 12000 | fits 0 = FULL | fits 1 = FULL");
        edge.play(left(539), "fits 0 = FULL | fits 1 = FULL | count 5 = 11461");
        edge.says("by chance() m n");
        edge.play(left(396), "chance 1 99 4 0 0 = 1 | count 5 = 12000 | chance 1 1 1 0 0 = NO | chance 1 0 4 0 0 = 1");
        edge.play(left(395), "chance 1 99 4 0 0 = NO | count 5 = 11605 | chance 1 98 4 0 0 = 1 | count 5 = 11997 | chance 1 2 2 0 0 = NO"
            + " | chance 1 1 4 0 0 = NO | chance 1 3 1 0 0 = 1 | count 5 = 12000");
        edge.says("by ends() all that its PLAN tells");
        edge.play(left(792), "8 * plan 0 99 | ends 0 = 0 | count 5 = 12000 | ends 0 = FULL | ends 1 = FULL | plan -1 0 | plan 1 1"
            + " | plan 3 7 | ends 0 = 0 | count 5 = 12000");
        edge.play(left(791), "8 * plan 0 99 | ends 0 = FULL | ends 1 = FULL | count 5 = 11209 | plan -1 0 | 7 * plan 0 99 | plan 0 98"
            + " | ends 1 = 0 | count 5 = 12000");
        edge.says("what is refused isn't counted");
        edge.play(left(99), "would 99 19 = NONE | would 100 0 = BAD | turns 2 9 = NONE | turns 0 100 = BAD | best 61 0 = BAD"
            + " | best 9 2 = NONE | fits 2 = NONE | day 0 100 = BAD | chance 0 9 5 0 0 = NO | ends 2 = NONE | count 5 = 11901");
        edge.says("image(), undo() don't change how many are counted");
        edge.play(CARS, "pass 9 | image | pass 90 | count 5 = 99 | undo = 9 | count 5 = 99 | pass 1 | count 5 = 100 | image"
            + " | count 5 = 100 | undo = 10 | count 5 = 100");
        edge.play(left(1), "image | pass 1 | pass 1 = FULL | undo | count 5 = 12000 | pass 1 = FULL | pass 0 = 0");
    }
}
