/** What is only asked changes nothing; a SECOND's order; objects are apart, and serve for 512 calls. */
public final class EdgesAskedTest {
    private static final Edge edge = new Edge("EdgesAskedTest");
    /** Bikes 0 and 1 meet, bikes 2 meet none; each has a phase of its own; least and gap are 1. */
    private static final String THREE = "text 'ba1*1~1;ba1*1~1;bb1*1~1' | read = 3 | phase 1 0 | phase 2 0 | phase 4 0 | start = 3";

    public static void main(String[] args) {
        isThere();
        isTold();
        wouldBe();
        ofSignalsPhasesAndNodes();
        inThisOrder();
        thoughtIsTheSame();
        apart();
        manyCalls();
        edge.end();
    }

    /** Behind these calls, whatever they answer, all is as it was in each of these states. */
    private static void changesNothing(String calls) {
        String asked = "? " + calls.replace(" | ", " | ? ");
        edge.alike(asked, "");
        for (String state : new String[] {State.WITH_SIGNALS, State.SET_UP, State.STARTED}) {
            edge.alike(state + " | " + asked, state);
        }
    }

    private static void isThere() {
        edge.promise("promises 16 to 23");
        edge.says("---- what is there");
        changesNothing("told 0 | told 9 | told 15 | told 18 | of 0 5 | of 1 6 | of 3 12 | of 2 13 | way 0 1 | clear 0 1 | clear 1 0 | clear 0 2"
            + " | narrow 0 1 | narrow 1 0 | table 0 | table 1 | table 2 | table 3 | phaseOf 0 0 | phaseOf 1 2 | phaseOf 2 3 | taken 0 0"
            + " | taken 1 4 | taken 2 3");
    }

    private static void isTold() {
        edge.promise("promises 24 to 29, 33, 43, 46, 49, 52");
        edge.says("---- the record, proofs; BAND; MEAN; JUDGED; how many; Item i of a TAPE");
        changesNothing("recorded 0 0 | recorded 1 2 | greens 0 0 | greens 0 1 | greens 1 2 | greens 2 3 | could 0 5 0 | could 0 5 1 | crowded 5 0"
            + " | crowded 5 1 | proved | band 0 | band 1 | band 2 | mean 0 | mean 1 | judge 0 0 | judge 0 2 | judge 1 0 | judge 2 0 | count 0"
            + " | count 5 | peek 0 2 | peek 1 3 | peek 5 0");
    }

    /** 90 seconds are counted by these calls, as by nine of nodeBest, and nothing else changes. */
    private static void counts90(String calls) {
        String[] states = {State.STARTED, State.STARTED + " | over = 3", State.STARTED + " | over | cycle 0 0 0 | pass 20"};
        for (String state : states) {
            edge.alike(state + " | " + calls, state + " | 9 * nodeBest 1 0");
        }
    }

    private static void wouldBe() {
        edge.promise("terms 3");
        edge.says("All that follows (but waves) is asked, and changes nothing");
        counts90("would 90 4");
        counts90("would 45 0 | would 45 18");
        counts90("? turns 0 90");
        counts90("? turns 2 45 | ? turns 3 45");
        counts90("best 10 0");
        counts90("best 5 0 | best 5 1");
        counts90("day 77 90");
        counts90("day MIN 45 | day MAX 45");
        counts90("chance 9 45 2 500 0");
        counts90("chance MAX 30 3 500 1");
        edge.alike(State.STARTED + " | ? fits 0", State.STARTED + " | 6 * would 90 0");
        edge.alike(State.STARTED + " | ? fits 1", State.STARTED + " | 6 * would 90 0");
        edge.says("by ends() all that its PLAN tells");
        String plan = State.STARTED + " | plan -1 0 | plan 2 0 | plan 0 30 | plan 1 0 | plan 0 40 | plan 3 1 | plan 3 0 | plan 2 0 | plan 0 20";
        edge.alike(plan + " | ends 0", plan + " | 9 * nodeBest 0 0");
        edge.alike(plan + " | ends 1", plan + " | would 90 0");
    }

    private static void ofSignalsPhasesAndNodes() {
        edge.promise("promise 34");
        edge.says("BEST OFFSET of a NODE: it stays as it is");
        edge.alike(State.STARTED + " | nodeBest 0 0 | nodeBest 1 1", State.STARTED + " | would 20 0");
        edge.says("what is not asked of stays: of one SIGNAL, of one NODE, of one TAPE");
        edge.play("text 'ca1;ca2;ca3;ca4' | read", "tell 1 0 9 | of 0 1 = 5 | of 1 1 = 9 | of 2 1 = 5 | tell 1 1 50 | of 0 2 = 40 | of 1 2 = 50"
            + " | of 2 2 = 40 | tell 1 2 9 | of 0 3 = 3 | of 2 3 = 3 | tell 1 3 9 | of 0 4 = 0 | of 2 4 = 0 | of 1 1 = 9 | of 1 2 = 50"
            + " | of 1 3 = 9 | of 1 4 = 9");
        edge.play("node 1 2 3 | node 4 5 6 | node 7 8 9", "change 1 0 11 = 4 | change 1 1 12 = 5 | change 1 2 13 = 6 | change 0 0 0 = 1"
            + " | change 0 1 1 = 2 | change 0 2 0 = 3 | change 2 0 0 = 7 | change 2 1 1 = 8 | change 2 2 0 = 9 | change 1 0 0 = 11"
            + " | change 1 1 1 = 12 | change 1 2 0 = 13");
        edge.play("tape 0 3 3 | tape 1 3 3 | tape 2 3 3", "item 1 1 7 | peek 0 1 = 0 | peek 1 0 = 0 | peek 1 1 = 7 | peek 1 2 = 0 | peek 2 1 = 0"
            + " | tape 0 0 1 | peek 1 1 = 7 | tape 2 -1 0 | peek 1 1 = 7");
    }

    private static void inThisOrder() {
        edge.promise("terms 2");
        edge.says("A SECOND PASSES, in this order: COMING, then CHANGE: who comes in 5 calls the other PHASE in 5");
        edge.play(THREE, "pass 5 | told 1 = 0 | tell 1 3 60 | told 9 = 0 | pass 1 | told 1 = 1 | of 0 8 = 5 | recorded 0 2 = 5 | of 1 9 = 5");
        edge.says("who comes in 5 is SEEN in 5, and holds the GREEN");
        edge.play(THREE, "pass 5 | come 1 1 | tell 0 3 60 | pass 1 = 1 | of 0 9 = 5 | told 1 = 0 | tell 0 3 0 | pass 1 | told 1 = 1"
            + " | of 0 8 = 6");
        edge.says("CHANGE, then TURNING, then GOING: CALLED in 5, GREEN in 5, SERVED in 5");
        edge.play(THREE, "pass 5 | come 2 2 | pass 1 = 1 | told 1 = 2 | of 0 8 = 5 | of 2 7 = 5 | told 7 = 4 | of 2 10 = 1");
        edge.says("then WAITED is all QUEUES, together, more: who is SERVED at once has not waited");
        edge.play(THREE, "pass 5 | come 2 2 | come 1 3 | pass 1 = 0 | told 1 = 1 | told 4 = 5 | pass 4 = 1 | told 7 = 2 | told 4 = 24 | pass 1 = 1"
            + " | told 4 = 27 | pass 1 = 1 | told 4 = 29 | pass 1 = 1 | told 1 = 2 | told 4 = 30 | pass 1 = 1 | told 4 = 30");
        edge.says("and SECOND is 1 more");
        edge.play(THREE, "pass 1 | told 0 = 1 | of 0 7 = 0 | pass 0 | told 0 = 1 | pass 2 | told 0 = 3");
        edge.says("an EMERGENCY that is told ahead of a SECOND is so in it");
        edge.play(THREE, "pass 5 | emergency 2 | pass 1 | told 1 = 2 | told 2 = 0 | of 2 7 = 5 | of 0 8 = 5 | over | come 0 1 | pass 1 = 1"
            + " | told 1 = 0 | of 2 8 = 6 | of 0 7 = 6 | told 2 = NEVER");
    }

    /** What would be behind n seconds is so, as they have passed. */
    private static void thoughtIsTheSame() {
        edge.promise("terms 3");
        edge.says("in thought SECONDS PASS as they would");
        edge.play(THREE, "come 1 2 | come 2 1 | would 5 7 = 0 | would 6 7 = 2 | would 8 7 = 4 | would 5 18 = 3 | would 7 18 = 1 | would 7 5 = 2"
            + " | would 8 5 = 3 | would 8 4 = 18 | would 7 4 = 18 | would 6 4 = 17 | turns 1 9 = 5 | turns 2 9 = 7 | told 0 = 0");
        edge.play(THREE, "come 1 2 | come 2 1 | pass 5 = 0 | told 7 = 0 | pass 1 = 1 | told 7 = 2 | told 4 = 17 | pass 1 = 1 | told 4 = 18"
            + " | pass 1 = 1 | told 7 = 4 | told 4 = 18");
        edge.says("of a DRAW: the SEED goes on where it was");
        edge.play(THREE, "tell 1 3 8 | tell 0 3 7 | would 1 10 = -1770082073 | told 10 = 1 | would 1 10 = -1770082073 | pass 1"
            + " | told 10 = -1770082073");
    }

    private static void apart() {
        edge.promise("promise 1");
        edge.says("A new object: it knows nothing of another one");
        edge.play(State.STARTED);
        edge.refused("", "start = STATE | undo = STATE | over = STATE | goes 0 0 = NONE | item 0 0 1 = NOTHING | read = -10");
        SafeClears one = new SafeClears();
        SafeClears other = new SafeClears();
        one.signal(0, 5);
        other.signal(1, 6);
        one.wave(20);
        other.node(29, 30, 0);
        one.seed(9);
        other.tape(0, 0, 1);
        one.come(0, 3);
        other.image();
        is("one.told(10)", one.told(10), 9);
        is("other.told(10)", other.told(10), 1);
        is("one.of(0, 0)", one.of(0, 0), 0);
        is("other.of(0, 0)", other.of(0, 0), 1);
        is("one.count(7)", one.count(7), 20);
        is("other.count(7)", other.count(7), 30);
        is("one.count(4)", one.count(4), 0);
        is("other.count(4)", other.count(4), 1);
        is("one.item(0, 0, 1)", one.item(0, 0, 1), -11);
        is("other.item(0, 0, 1)", other.item(0, 0, 1), 1);
        is("other.of(0, 5)", other.of(0, 5), 0);
        is("one.undo()", one.undo(), SafeClears.STATE);
        is("other.undo()", other.undo(), 0);
    }

    private static void is(String call, long got, long due) {
        edge.is(call, got, due);
    }

    private static void manyCalls() {
        edge.promise("what it is");
        edge.says("An object is used for at most 512 calls");
        edge.play("signal 3 0 | phase 1 0 | start | 507 * pass 1 | told 0 = 507 | count 5 = 507");
        edge.play("510 * feed 9999 = BAD | count 0 = 0 | count 5 = 0");
        edge.play("signal 0 0 | phase 1 0 | start | 121 * pass 99 | pass 21 | count 5 = 12000 | told 0 = 12000 | pass 1 = FULL"
            + " | could 0 9999 0 = 1 | of 0 7 = 0 | told 5 = 0 | of 0 13 = 1");
    }
}
