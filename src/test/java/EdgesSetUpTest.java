/** Boundaries of the document's terms 1 and of promises 1 to 9. */
public final class EdgesSetUpTest {
    private static final Edge edge = new Edge("EdgesSetUpTest");
    private static final String EIGHT = "8 * signal 1 5";

    public static void main(String[] args) {
        newObject();
        signal();
        goes();
        meets();
        clears();
        narrows();
        tell();
        feed();
        textAndClauses();
        waysOfTheText();
        numbersOfTheText();
        faultsOfTheText();
        readsRefusals();
        safety();
        phase();
        start();
        edge.end();
    }

    private static void newObject() {
        edge.promise("promise 1");
        edge.says("No SIGNALS, no PHASES, no NODES; SET UP");
        edge.play("told 16 = 0 | told 17 = 0 | count 4 = 0 | of 0 0 = NONE | phaseOf 0 0 = NONE | change 0 0 0 = NONE");
        edge.play("signal 0 0 = 0", "signal 0 0 = 1", "phase 1 0 = 0", "node 0 1 0 = 0");
        edge.refused("", "start = STATE | pass 0 = STATE | over = STATE | undo = STATE | read = -10");
        edge.says("SAFETY (1 at first), SEED (1 at first), QUEUE 0, CYCLE none, ROUND 30, TAPES hold nothing at first");
        edge.play("told 11 = 1 | told 10 = 1 | told 12 = 0 | told 13 = 0 | told 14 = 0 | told 15 = NEVER | told 18 = 0",
            "count 7 = 30 | item 0 0 0 = NOTHING | item 5 0 0 = NOTHING | told 1 = NEVER | told 2 = NEVER | told 3 = NEVER");
        edge.says("all is empty");
        edge.play("told 0 = 0 | told 4 = 0 | told 5 = 0 | told 6 = 0 | told 7 = 0 | told 8 = 0 | told 9 = 0",
            "count 0 = 0 | count 1 = 0 | count 2 = 0 | count 3 = 0 | count 5 = 0 | count 6 = 0 | table 0 = 0 | table 1 = 0",
            "table 2 = 0 | table 3 = 1 | proved = NEVER | crowded 0 0 = NEVER | crowded 0 1 = NEVER | band 2 = 0",
            "mean 0 = NO | mean 1 = NO | recorded 0 0 = BAD | could 0 0 0 = 0 | could 63 9999 1 = 0");
    }

    private static void signal() {
        edge.promise("promise 2");
        edge.says("CELLS are 0 .. 63; a KIND 0 .. 3");
        edge.play("signal 0 0 = 0 | signal 3 63 = 1 | signal 3 0 = 2 | signal 0 63 = 3 | signal 1 1 = 4 | signal 2 62 = 5",
            "of 0 0 = 0 | of 1 0 = 3 | way 0 0 = 0 | way 1 0 = 63 | of 4 0 = 1 | of 5 0 = 2 | way 4 0 = 1 | way 5 0 = 62");
        edge.refused("", "signal -1 0 = BAD | signal 4 0 = BAD | signal 0 -1 = BAD | signal 0 64 = BAD | signal MIN 0 = BAD"
            + " | signal MAX 0 = BAD | signal 0 MIN = BAD | signal 0 MAX = BAD");
        edge.refused(State.SET_UP, "signal -1 0 = BAD | signal 4 0 = BAD | signal 0 -1 = BAD | signal 0 64 = BAD");
        edge.says("SIGNALS 0 .. 7, as they come; FULL");
        edge.play("7 * signal 0 0 | told 16 = 7 | of 7 0 = NONE | signal 2 9 = 7 | told 16 = 8 | of 7 0 = 2 | signal 0 0 = FULL");
        edge.refused(EIGHT, "signal 0 0 = FULL | signal 3 63 = FULL | signal 4 0 = BAD | signal 0 64 = BAD | signal 0 -1 = BAD");
        edge.says("its WAY one CELL (LEAST 5, MOST 40, GAP 3, RATE 0), a QUEUE (0 at first)");
        edge.play("signal 2 17 = 0 | of 0 0 = 2 | of 0 1 = 5 | of 0 2 = 40 | of 0 3 = 3 | of 0 4 = 0 | of 0 5 = 0 | of 0 6 = 0"
            + " | of 0 7 = NEVER | of 0 8 = NEVER | of 0 9 = NEVER | of 0 10 = 0 | of 0 11 = 1 | of 0 12 = 0 | of 0 13 = 0"
            + " | way 0 0 = 17 | way 0 1 = BAD");
        edge.says("STATE: STARTED; BAD; STATE; FULL: the first that a call's words name");
        edge.play("signal 0 0 | phase 1 0 | signal 0 0 = 1");
        edge.refused(State.STARTED, "signal 0 0 = STATE | signal 3 63 = STATE | signal 4 0 = BAD | signal 0 64 = BAD");
        edge.refused(EIGHT + " | phase 1 0 | start", "signal 0 0 = STATE | signal -1 0 = BAD | signal 0 -1 = BAD");
    }

    private static void goes() {
        edge.promise("promise 3");
        edge.says("a WAY (1 .. 8 CELLS, one behind the other, none twice): how many");
        edge.play("signal 0 0 | goes 0 63 = 2 | goes 0 1 = 3 | goes 0 62 = 4 | goes 0 7 = 5 | goes 0 8 = 6 | goes 0 56 = 7 | goes 0 9 = 8",
            "of 0 11 = 8 | way 0 0 = 0 | way 0 1 = 63 | way 0 2 = 1 | way 0 3 = 62 | way 0 4 = 7 | way 0 5 = 8 | way 0 6 = 56"
                + " | way 0 7 = 9",
            "goes 0 10 = FULL");
        String seven = "signal 1 0 | goes 0 1 | goes 0 2 | goes 0 3 | goes 0 4 | goes 0 5 | goes 0 6";
        edge.play(seven, "goes 0 7 = 8 | goes 0 8 = FULL");
        edge.refused(seven + " | goes 0 7", "goes 0 8 = FULL | goes 0 63 = FULL | goes 0 7 = BAD | goes 0 0 = BAD | goes 0 64 = BAD"
            + " | goes 0 -1 = BAD");
        edge.says("BAD: no CELL, there already");
        edge.refused(State.WITH_SIGNALS, "goes 0 -1 = BAD | goes 0 64 = BAD | goes 0 MIN = BAD | goes 0 MAX = BAD | goes 0 0 = BAD"
            + " | goes 0 1 = BAD"
            + " | goes 3 2 = BAD | goes 3 0 = BAD");
        edge.play(State.WITH_SIGNALS, "goes 0 2 = 3 | goes 3 1 = 3 | goes 3 63 = 4");
        edge.says("NONE no such number");
        edge.refused("", "goes 0 0 = NONE | goes -1 0 = NONE | goes 8 0 = NONE | goes 0 64 = NONE");
        edge.refused(State.WITH_SIGNALS, "goes 4 9 = NONE | goes -1 9 = NONE | goes 8 9 = NONE | goes MIN 9 = NONE | goes MAX 9 = NONE"
            + " | goes 4 64 = NONE | goes -1 -1 = NONE");
        edge.play("8 * signal 0 0 | goes 7 1 = 2 | goes 8 1 = NONE");
        edge.says("STATE: there are PHASES; FULL");
        edge.refused(State.SET_UP, "goes 0 9 = STATE | goes 3 63 = STATE | goes 0 0 = BAD | goes 0 64 = BAD | goes 4 9 = NONE"
            + " | goes -1 64 = NONE");
        edge.refused(State.STARTED, "goes 0 9 = STATE | goes 0 1 = BAD | goes 4 9 = NONE");
        edge.refused(seven + " | goes 0 7 | signal 0 0 | phase 2 0", "goes 0 8 = STATE | goes 0 7 = BAD | goes 1 1 = STATE"
            + " | goes 2 1 = NONE");
        edge.play(seven, "signal 0 20 | phase 2 0 = 0 | goes 0 7 = STATE | goes 1 21 = STATE");
    }

    private static void meets() {
        edge.promise("terms 1");
        edge.says("Two SIGNALS MEET, if a CELL is in both WAYS");
        edge.play("text 'ca1b1c1d1e1f1g1h1;ca2b2c2d2e2f2g2h1;ca2;ch8' | read",
            "of 0 12 = 2 | of 1 12 = 5 | of 2 12 = 2 | of 3 12 = 0 | table 0 = 2 | narrow 0 1 = 7 | narrow 1 0 = 7 | narrow 1 2 = 8",
            "clear 0 2 = NEVER | narrow 0 2 = NEVER | clear 2 3 = NEVER | narrow 3 2 = NEVER | goes 2 63 = 2 | narrow 2 3 = 63",
            "narrow 3 2 = 63 | of 2 12 = 10 | of 3 12 = 4 | table 0 = 3");
        edge.says("(or are one)");
        edge.play("8 * signal 0 0 | clear 0 0 = NEVER | clear 7 7 = NEVER | narrow 0 0 = NEVER | narrow 7 7 = NEVER | clear 7 6 = 5",
            "of 7 12 = 127 | of 0 12 = 254 | table 0 = 28 | table 1 = 5 | table 2 = 280 | table 3 = 46");
    }

    private static void clears() {
        edge.promise("terms 1");
        edge.says("AMBER by KINDS: 3, 2, 4, 2; PACE by KINDS: 1, 3, 2, 1; PACE of a times (i and 1)");
        edge.play("text 'ca1;wa1;ta1;ba1' | read | safety 0",
            "clear 0 1 = 4 | clear 0 2 = 4 | clear 0 3 = 4 | clear 1 0 = 5 | clear 1 2 = 5 | clear 1 3 = 5",
            "clear 2 0 = 6 | clear 2 1 = 6 | clear 2 3 = 6 | clear 3 0 = 3 | clear 3 1 = 3 | clear 3 2 = 3",
            "table 0 = 6 | table 1 = 6 | table 2 = 54");
        edge.says("the 0-th and the 7-th of a's WAY");
        edge.play("text 'ch8g8f8e8d8c8b8a1;wh8g8f8e8d8c8b8a2;ca1;ca2' | read | safety 0",
            "clear 0 2 = 11 | clear 2 0 = 3 | clear 1 3 = 26 | clear 3 1 = 3 | narrow 2 0 = 0 | narrow 3 1 = 8 | clear 1 0 = 17");
        edge.play("text 'th8g8f8e8d8c8b8a1;bh7g7f7e7d7c7b7a2;ca1;ca2' | read | safety 0",
            "clear 0 2 = 20 | clear 2 0 = 3 | clear 1 3 = 10 | clear 3 1 = 3 | table 0 = 2 | table 1 = 20 | table 2 = 36");
        edge.says("less PACE of b times j; the greatest of these");
        edge.play("text 'ca1b1;wa1b1;ta1b1;ba1b1' | read | safety 0",
            "clear 0 1 = 4 | clear 1 0 = 7 | clear 0 2 = 4 | clear 2 0 = 7 | clear 0 3 = 4 | clear 3 0 = 3 | clear 1 2 = 6",
            "clear 2 1 = 6 | clear 1 3 = 7 | clear 3 1 = 3 | clear 2 3 = 7 | clear 3 2 = 3");
        edge.says("but AMBER of a at least: one more, as much, one less and much less of it");
        edge.play("text 'ca1;cb1a1;cc1b1a1;bd1c1b1a1' | read | safety 0",
            "clear 0 1 = 3 | clear 0 2 = 3 | clear 0 3 = 3 | clear 1 0 = 5 | clear 2 0 = 6 | clear 3 0 = 6 | signal 0 0 | clear 0 4 = 4");
        edge.play("text 'ta1;cb1a1;cb1c1a1;cb1c1d1a1' | read | safety 0", "clear 0 1 = 5 | clear 0 2 = 4 | clear 0 3 = 4");
        edge.play("text 'wa1;wb1a1;tb1a1;tb1c1a1' | read | safety 0", "clear 0 1 = 2 | clear 0 2 = 3 | clear 0 3 = 2");
        edge.says("SAFETY (0 .. 5; 1 at first) more");
        edge.play("text 'ca1;cb1c1a1' | read",
            "clear 0 1 = 4 | clear 1 0 = 7 | safety 0 = 1 | clear 0 1 = 3 | clear 1 0 = 6 | safety 5 = 0 | clear 0 1 = 8 | clear 1 0 = 11");
    }

    private static void narrows() {
        edge.promise("terms 1");
        edge.says("NARROW: the CELL of both by which that is greatest, of like ones the first of a's WAY");
        edge.play("text 'ca1b1;wa1b1;ta1b1;ba1b1' | read",
            "narrow 0 1 = 0 | narrow 1 0 = 1 | narrow 0 2 = 0 | narrow 2 0 = 1 | narrow 0 3 = 0 | narrow 3 0 = 0 | narrow 1 2 = 1",
            "narrow 2 1 = 0 | narrow 1 3 = 1 | narrow 3 1 = 0 | narrow 2 3 = 1 | narrow 3 2 = 0");
        edge.play("text 'cc1b1a1;bc1b1a1;cf1a1b1c1;bb1' | read",
            "narrow 0 1 = 2 | narrow 1 0 = 2 | narrow 0 2 = 0 | narrow 2 0 = 2 | narrow 0 3 = 1 | narrow 3 0 = 1");
        edge.says("the one by which it is greatest, though AMBER is more");
        edge.play("text 'ca1b1;wc1d1e1f1b1a1' | read | safety 0", "clear 0 1 = 3 | narrow 0 1 = 1 | clear 1 0 = 20 | narrow 1 0 = 0");
        edge.play("text 'ca1b1;wc1d1e1f1a1b1' | read | safety 0", "clear 0 1 = 3 | narrow 0 1 = 0 | clear 1 0 = 19 | narrow 1 0 = 1");
    }

    private static void tell() {
        String[] good = {"0 1", "0 20", "1 20", "1 99", "2 1", "2 9", "3 0", "3 60"};
        String[] bad = {"0 0", "0 21", "1 19", "1 100", "2 0", "2 10", "3 -1", "3 61", "0 MIN", "1 MIN", "2 MIN", "3 MIN",
            "0 MAX", "1 MAX", "2 MAX", "3 MAX", "0 -1", "1 -1", "1 0", "2 -1"};
        edge.promise("promise 4");
        edge.says("LEAST (1 .. 20), MOST (LEAST .. 99), GAP (1 .. 9), RATE (0 .. 60): what it was");
        edge.play("signal 0 0 | tell 0 0 1 = 5 | tell 0 0 20 = 1 | of 0 1 = 20 | tell 0 1 20 = 40 | tell 0 1 99 = 20 | of 0 2 = 99",
            "tell 0 2 1 = 3 | tell 0 2 9 = 1 | of 0 3 = 9 | tell 0 3 60 = 0 | tell 0 3 0 = 60 | of 0 4 = 0");
        for (String v : good) {
            edge.play("signal 1 0 | tell 0 0 20", "tell 0 " + v);
        }
        for (String v : bad) {
            edge.refused("signal 1 0 | tell 0 0 20", "tell 0 " + v + " = BAD");
            edge.refused("8 * signal 1 0 | tell 7 0 20", "tell 7 " + v + " = BAD");
        }
        edge.says("0 LEAST (no more than MOST); MOST (LEAST .. 99)");
        edge.play("signal 0 0 | tell 0 1 6 = 40 | tell 0 0 6 = 5 | tell 0 1 6 = 6 | tell 0 1 7 = 6 | tell 0 0 7 = 6");
        edge.refused("signal 0 0 | tell 0 1 6", "tell 0 0 7 = BAD | tell 0 1 4 = BAD | tell 0 0 20 = BAD");
        edge.play("signal 0 0 | tell 0 0 1 | tell 0 1 1 = 40 | tell 0 0 1 = 1");
        edge.refused("signal 0 0 | tell 0 0 1 | tell 0 1 1", "tell 0 0 2 = BAD | tell 0 1 0 = BAD | tell 0 0 0 = BAD");
        edge.says("NONE: signal, what; BAD");
        edge.refused("", "tell 0 0 5 = NONE | tell -1 0 5 = NONE");
        edge.refused(State.SET_UP, "tell 4 0 5 = NONE | tell -1 0 5 = NONE | tell MIN 0 5 = NONE | tell MAX 0 5 = NONE | tell 0 -1 5 = NONE"
            + " | tell 0 4 5 = NONE | tell 3 MIN 5 = NONE | tell 3 MAX 5 = NONE | tell 4 0 0 = NONE | tell 0 4 -1 = NONE"
            + " | tell 0 -1 MIN = NONE");
        edge.refused(State.STARTED, "tell 4 0 5 = NONE | tell 0 4 5 = NONE | tell 0 0 0 = BAD | tell 0 0 21 = BAD | tell 0 1 2 = BAD"
            + " | tell 1 1 3 = BAD");
        edge.play(State.STARTED, "tell 0 0 1 = 3 | tell 0 1 1 = 20 | tell 1 1 99 = 9 | tell 1 0 20 = 4 | tell 1 1 20 = 99"
            + " | tell 3 3 60 = 0");
    }

    private static void feed() {
        edge.promise("promise 5");
        edge.says("a sign (0 .. 127): how many it has; THE TEXT (bytes, 100 at most)");
        edge.play("feed 0 = 1 | feed 127 = 2 | feed 1 = 3 | feed 126 = 4 | 95 * feed 99 | count 0 = 99 | feed 9 = 100 | feed 9 = FULL"
            + " | count 0 = 100");
        edge.refused("", "feed -1 = BAD | feed 128 = BAD | feed MIN = BAD | feed MAX = BAD | feed 256 = BAD");
        edge.refused(State.SET_UP, "feed -1 = BAD | feed 128 = BAD");
        edge.refused("99 * feed 99", "feed -1 = BAD | feed 128 = BAD");
        edge.refused("100 * feed 99", "feed 99 = FULL | feed 0 = FULL | feed 127 = FULL | feed -1 = BAD | feed 128 = BAD");
        edge.says("a byte is as it was fed");
        edge.play("feed 0 | read = -10 | feed 127 | read = -10 | feed 99 | feed 0 | read = -11 | text 'ca1' | feed 127 | read = -13");
        edge.says("STARTED or not");
        edge.play(State.STARTED, "count 0 = 2 | feed 99 = 3");
    }

    private static void read(String text, long answer) {
        edge.play("text '" + text + "' | read = " + answer, "count 0 = 0 | told 16 = " + Math.max(answer, 0));
    }

    /** The fault's place is due, and nothing comes. */
    private static void fault(String text, int place) {
        read(text, -10 - place);
        edge.play("signal 2 9 | text 'wb8;" + text + "' | read = " + (-14 - place), "told 16 = 1 | count 0 = 0 | text 'ca1' | read = 1");
    }

    private static void textAndClauses() {
        edge.promise("promise 6");
        edge.says("CLAUSES, 1 to 4, with ; between: how many");
        read("ca1", 1);
        read("ca1;wb1", 2);
        read("ca1;wb1;tc1", 3);
        read("ca1;wb1;tc1;bd1", 4);
        edge.play("text 'ca1;wb1;tc1;bd1' | read | of 0 0 = 0 | of 1 0 = 1 | of 2 0 = 2 | of 3 0 = 3 | way 0 0 = 0 | way 3 0 = 3");
        read("", -10);
        read("ca1;", -14);
        read("ca1;;wb1", -14);
        read(";ca1", -10);
        read("ca1;wb1;tc1;", -22);
        read("ca1;wb1;tc1;bd1;", -25);
        read("ca1;wb1;tc1;bd1;ce1", -25);
        read("ca1*5;wb1/9;tc1~9;bd1@9;ce1", -33);
        edge.says("THE TEXT (bytes, 100 at most)");
        String clause = "ca1b1c1d1e1f1g1h1*20/99~9@60";
        String hundred = clause + ";" + clause + ";" + clause + ";wa1b1c1d1e1f1";
        edge.play("text '" + hundred + "' | feed 59 = FULL | read = 4 | of 3 11 = 6 | of 2 11 = 8 | of 2 4 = 60 | count 0 = 0");
        edge.play("text '" + hundred.substring(0, 99) + "' | read = -109 | text '" + hundred.substring(0, 99) + "9' | read = -109");
        edge.play("text '" + hundred.substring(0, 98) + "*9' | read = 4 | text '" + hundred.substring(0, 98) + "*0' | read = -109");
        edge.play("text '" + hundred.substring(0, 98) + "9*' | read = -108 | text '" + hundred.substring(0, 98) + "/*' | read = -109");
        edge.play("text '" + hundred.substring(0, 99) + "' | feed 52 = 100 | read = 4");
        edge.play("text '" + hundred.substring(0, 96) + "@60;' | read = -109");
        edge.play("text '" + hundred.substring(0, 96) + "*20~' | read = -110");
    }

    private static void waysOfTheText() {
        edge.promise("promise 6");
        edge.says("a letter (c, w, t, b: the KIND)");
        for (char sign = 33; sign < 127; sign++) {
            if (sign != '\'' && sign != '|' && "cwtb".indexOf(sign) < 0) {
                fault(sign + "a1", 0);
            }
        }
        fault("Ca1", 0);
        edge.says("CELLS (a .. h and 1 .. 8 each)");
        edge.play("text 'ca1;ch1;ca8;ch8' | read = 4 | way 0 0 = 0 | way 1 0 = 7 | way 2 0 = 56 | way 3 0 = 63");
        edge.play("text 'tb7;bg2;wc3d4e5f6' | read = 3 | way 0 0 = 49 | way 1 0 = 14 | way 2 0 = 18 | way 2 1 = 27 | way 2 2 = 36"
            + " | way 2 3 = 45");
        fault("c`1", 1);
        fault("ci1", 1);
        fault("cA1", 1);
        fault("c11", 1);
        fault("ca0", 2);
        fault("ca9", 2);
        fault("ca/", 2);
        fault("caa", 2);
        fault("ca1`1", 3);
        fault("ca1i1", 3);
        fault("ca1b0", 4);
        fault("ca1b9", 4);
        fault("ca11", 3);
        edge.says("1 to 8 of them");
        fault("c", 1);
        fault("c;", 1);
        fault("c*5", 1);
        read("ca1b1c1d1e1f1g1", 1);
        read("ca1b1c1d1e1f1g1h1", 1);
        read("ca1b1c1d1e1f1g1h1;ca1b1c1d1e1f1g1h1@1", 2);
        fault("ca1b1c1d1e1f1g1h1a2", 17);
        fault("ca1b1c1d1e1f1g1h1a1", 17);
        fault("ca1b1c1d1e1f1g1h1i1", 17);
        edge.play("text 'ca1b1c1d1e1f1g1h1' | read | of 0 11 = 8 | way 0 7 = 7 | way 0 8 = BAD | goes 0 8 = FULL");
        edge.says("none twice; of a CELL that is in the WAY already its digit");
        fault("ca1a1", 4);
        fault("ca1b1a1", 6);
        fault("ca1b1b1", 6);
        fault("ca1b1c1d1e1f1g1a1", 16);
        fault("ca1b1c1d1e1f1g1g1", 16);
        fault("ca2a2", 4);
        fault("ch8a1h8", 6);
        fault("cb7a8b7", 6);
        read("cb1b2b3b8", 1);
        read("ca1a2b1b2", 1);
        read("ca1;ca1", 2);
        edge.says("no blanks");
        fault(" ca1", 0);
        fault("c a1", 1);
        fault("ca 1", 2);
        fault("ca1 ", 3);
        fault("ca1; wb1", 4);
        fault("ca1* 5", 4);
        edge.says("the end of THE TEXT, if it ends too early");
        fault("ca", 2);
        fault("ca1b", 4);
        fault("ca1b1c1d1e1f1g1h", 16);
        fault("ca1;w", 5);
        fault("ca1;wb", 6);
    }

    /** A clause with this behind its way is read: least, most, gap, rate. */
    private static void numbers(String behind, int... rules) {
        StringBuilder due = new StringBuilder("read = 1");
        for (int what = 0; what < rules.length; what++) {
            due.append(" | of 0 ").append(what + 1).append(" = ").append(rules[what]);
        }
        edge.play("text 'ca1" + behind + "'", due.toString());
        edge.play("text 'ca1" + behind + ";wb1' | read = 2 | of 1 1 = 5 | of 1 2 = 40 | of 1 3 = 3 | of 1 4 = 0");
    }

    private static void numbersOfTheText() {
        edge.promise("promise 6");
        edge.says("perhaps * LEAST (1 or 2 digits, 1 .. 20; else 5)");
        numbers("", 5, 40, 3, 0);
        numbers("*1", 1, 40, 3, 0);
        numbers("*01", 1, 40, 3, 0);
        numbers("*2", 2, 40, 3, 0);
        numbers("*9", 9, 40, 3, 0);
        numbers("*09", 9, 40, 3, 0);
        numbers("*10", 10, 40, 3, 0);
        numbers("*19", 19, 40, 3, 0);
        numbers("*20", 20, 40, 3, 0);
        edge.says("perhaps / MOST (1 or 2 digits, LEAST .. 99; else 40)");
        numbers("/5", 5, 5, 3, 0);
        numbers("/05", 5, 5, 3, 0);
        numbers("/6", 5, 6, 3, 0);
        numbers("/99", 5, 99, 3, 0);
        numbers("/98", 5, 98, 3, 0);
        numbers("*1/1", 1, 1, 3, 0);
        numbers("*1/01", 1, 1, 3, 0);
        numbers("*20/20", 20, 20, 3, 0);
        numbers("*20/21", 20, 21, 3, 0);
        edge.says("perhaps ~ GAP (a digit, 1 .. 9; else 3)");
        numbers("~1", 5, 40, 1, 0);
        numbers("~9", 5, 40, 9, 0);
        edge.says("perhaps @ RATE (1 or 2 digits, 0 .. 60; else 0)");
        numbers("@0", 5, 40, 3, 0);
        numbers("@00", 5, 40, 3, 0);
        numbers("@1", 5, 40, 3, 1);
        numbers("@01", 5, 40, 3, 1);
        numbers("@59", 5, 40, 3, 59);
        numbers("@60", 5, 40, 3, 60);
        edge.says("in that order");
        numbers("*6/7~8@9", 6, 7, 8, 9);
        numbers("*6/7~8", 6, 7, 8, 0);
        numbers("*6/7@9", 6, 7, 3, 9);
        numbers("*6~8@9", 6, 40, 8, 9);
        numbers("/7~8@9", 5, 7, 8, 9);
        numbers("*6@9", 6, 40, 3, 9);
        numbers("/7@9", 5, 7, 3, 9);
        numbers("~8@9", 5, 40, 8, 9);
        fault("ca1/7*6", 5);
        fault("ca1~8*6", 5);
        fault("ca1~8/7", 5);
        fault("ca1@9*6", 5);
        fault("ca1@9/7", 5);
        fault("ca1@9~8", 5);
        fault("ca1*6*6", 5);
        fault("ca1/7/7", 5);
        fault("ca1~8~8", 5);
        fault("ca1@9@9", 5);
        fault("ca1*6b1", 5);
    }

    private static void faultsOfTheText() {
        edge.promise("promise 6");
        edge.says("the FAULT: of a number that may not be its last digit");
        fault("ca1*0", 4);
        fault("ca1*00", 5);
        fault("ca1*21", 5);
        fault("ca1*99", 5);
        fault("ca1*0/9", 4);
        fault("ca1*21/30", 5);
        fault("ca1/4", 4);
        fault("ca1/04", 5);
        fault("ca1/0", 4);
        fault("ca1/00", 5);
        fault("ca1/4~3", 4);
        fault("ca1*6/5", 6);
        fault("ca1*20/19", 8);
        fault("ca1*20/2", 7);
        fault("ca1*20/02", 8);
        fault("ca1*1/0", 6);
        fault("ca1*1/00", 7);
        fault("ca1~0", 4);
        fault("ca1~0@5", 4);
        fault("ca1@61", 5);
        fault("ca1@99", 5);
        fault("ca1@61;wb1", 5);
        edge.says("the place of the first byte with which none begins so: a digit too many");
        fault("ca1*200", 6);
        fault("ca1*005", 5);
        fault("ca1*010", 6);
        fault("ca1/990", 6);
        fault("ca1/100", 6);
        fault("ca1/050", 6);
        fault("ca1~10", 5);
        fault("ca1~01", 4);
        fault("ca1~99", 5);
        fault("ca1@600", 6);
        fault("ca1@000", 6);
        fault("ca1@010", 6);
        edge.says("no digit, or the end");
        for (char mark : "*/~@".toCharArray()) {
            fault("ca1" + mark, 4);
            fault("ca1" + mark + ";", 4);
            fault("ca1" + mark + "/", 4);
            fault("ca1" + mark + ":", 4);
            fault("ca1" + mark + "a", 4);
            fault("ca1" + mark + "-1", 4);
            fault("ca1" + mark + "9:", 5);
            fault("ca1" + mark + "9.", 5);
            fault("ca1" + mark + "9,", 5);
            fault("ca1" + mark + "9x", 5);
            fault("ca1" + mark + "9;", 6);
        }
        fault("ca1*9/", 6);
        fault("ca1*9/9~9@", 10);
        edge.says("the first of two of them");
        fault("ca0;wb9", 2);
        fault("ca1;wb9;x", 6);
        fault("ca1*0;wb9", 4);
        fault("ca1a1*0", 4);
    }

    private static void readsRefusals() {
        edge.promise("promise 6");
        edge.says("FULL: no FAULT, but no room for all");
        edge.play("4 * signal 0 0 | text 'ca1;wb1;tc1;bd1' | read = 4 | told 16 = 8 | of 7 0 = 3 | way 7 0 = 3");
        edge.play("5 * signal 0 0 | text 'ca1;wb1;tc1;bd1' | read = FULL | told 16 = 5 | count 0 = 0 | of 5 0 = NONE");
        edge.play("5 * signal 0 0 | text 'ca1;wb1;tc1' | read = 3 | told 16 = 8");
        edge.play("7 * signal 0 0 | text 'wb1@7' | read = 1 | told 16 = 8 | of 7 4 = 7");
        edge.play("7 * signal 0 0 | text 'wb1@7;wb1' | read = FULL | told 16 = 7 | count 0 = 0 | signal 1 1 = 7 | of 7 4 = 0"
            + " | of 7 11 = 1");
        edge.play(EIGHT + " | text 'ca1' | read = FULL | count 0 = 0 | text 'ca1;' | read = -14 | count 0 = 0 | read = -10 | told 16 = 8");
        edge.refused(EIGHT, "read = -10");
        edge.refused(State.WITH_SIGNALS + " | feed 49 | read = 1", "read = -10");
        edge.says("STATE: STARTED (ahead of all); THE TEXT is empty then in any case");
        edge.play(State.STARTED, "read = STATE | count 0 = 0 | told 16 = 4 | text 'ca1' | read = STATE | count 0 = 0 | text 'x'"
            + " | read = STATE | count 0 = 0 | read = STATE");
        edge.refused(State.STARTED + " | read = STATE", "read = STATE");
        edge.play(EIGHT + " | phase 1 0 | start | text 'ca1' | read = STATE | count 0 = 0 | text 'c' | read = STATE | count 0 = 0"
            + " | told 16 = 8");
        edge.says("there may be PHASES");
        edge.play("signal 0 0 | phase 1 0 | text 'wa1' | read = 1 | of 1 12 = 1 | clear 1 0 = 6 | phase 3 0 = STATE | phase 2 0 = 1");
        edge.says("what is read was not there before");
        edge.play("text 'ca1b1c1*1/2~4@6;wd1e1f1*1/2~4@6' | read = 2 | text 'ta1;bd1' | read = 2 | of 2 11 = 1 | of 3 11 = 1 | of 2 1 = 5",
            "of 2 2 = 40 | of 2 3 = 3 | of 2 4 = 0 | of 3 4 = 0 | way 2 1 = BAD");
    }

    private static void safety() {
        edge.promise("promise 7");
        edge.says("SAFETY (0 .. 5): what it was. BAD; STATE: STARTED");
        edge.play("safety 0 = 1 | safety 5 = 0 | told 11 = 5 | safety 1 = 5 | safety 4 = 1 | told 11 = 4");
        edge.refused("", "safety -1 = BAD | safety 6 = BAD | safety MIN = BAD | safety MAX = BAD");
        edge.refused(State.SET_UP, "safety -1 = BAD | safety 6 = BAD");
        edge.play(State.SET_UP, "safety 5 = 2 | safety 0 = 5");
        edge.refused(State.STARTED, "safety 0 = STATE | safety 5 = STATE | safety 2 = STATE | safety -1 = BAD | safety 6 = BAD");
    }

    private static void phase() {
        String apart = "text 'ca1;ca2;ca3;ca4' | read | text 'ca5;ca6;ca7;ca8' | read";
        edge.promise("promise 8");
        edge.says("SIGNALS (bits; one at least); BAD: set (none; others than SIGNALS)");
        edge.refused("", "phase 1 0 = BAD | phase 0 0 = BAD | phase -1 0 = BAD | phase 1 -1 = BAD");
        edge.play("signal 0 0 | phase 1 0 = 0 | phaseOf 0 0 = 1");
        edge.refused("signal 0 0", "phase 0 0 = BAD | phase 2 0 = BAD | phase 3 0 = BAD | phase -1 0 = BAD | phase MIN 0 = BAD"
            + " | phase MAX 0 = BAD");
        edge.play("7 * signal 0 0 | phase 64 0 = 0 | phaseOf 0 0 = 64");
        edge.refused("7 * signal 0 0", "phase 128 0 = BAD | phase 192 0 = BAD | phase 0 0 = BAD");
        edge.play(apart, "phase 255 0 = 0 | phase 128 0 = 1 | phase 1 0 = 2 | phaseOf 0 0 = 255 | phaseOf 1 0 = 128 | phaseOf 2 0 = 1");
        edge.refused(apart, "phase 256 0 = BAD | phase 511 0 = BAD | phase 0 0 = BAD | phase -1 0 = BAD | phase -255 0 = BAD"
            + " | phase MIN 0 = BAD");
        edge.says("a FORCE (0 .. 239)");
        edge.play("signal 0 0 | phase 1 0 = 0 | phase 1 239 = 1 | phase 1 1 = 2 | phase 1 238 = 3 | phaseOf 0 1 = 0 | phaseOf 1 1 = 239");
        edge.refused(State.SET_UP, "phase 1 -1 = BAD | phase 1 240 = BAD | phase 1 MIN = BAD | phase 1 MAX = BAD | phase 16 0 = BAD"
            + " | phase 0 0 = BAD | phase -1 0 = BAD");
        edge.says("none of which MEET; STATE: STARTED, two MEET");
        edge.refused(State.SET_UP, "phase 3 0 = STATE | phase 7 0 = STATE | phase 15 239 = STATE | phase 9 0 = STATE | phase 10 0 = STATE"
            + " | phase 3 240 = BAD | phase 3 -1 = BAD | phase 19 0 = BAD");
        edge.play(State.SET_UP, "phase 5 0 = 3 | phase 1 0 = 4 | phase 8 0 = 5");
        edge.refused(State.STARTED, "phase 1 0 = STATE | phase 8 239 = STATE | phase 3 0 = STATE | phase 0 0 = BAD | phase 16 0 = BAD"
            + " | phase 1 240 = BAD | phase 1 -1 = BAD");
        edge.says("PHASES 0 .. 5, as they come; FULL");
        edge.play("signal 0 0 | signal 0 0 | 5 * phase 1 0 | told 17 = 5 | phaseOf 5 0 = NONE | phase 2 9 = 5 | told 17 = 6"
            + " | phaseOf 5 0 = 2 | phaseOf 5 1 = 9 | phase 1 0 = FULL");
        edge.refused("signal 0 0 | signal 0 0 | 6 * phase 1 0", "phase 1 0 = FULL | phase 2 239 = FULL | phase 3 0 = STATE"
            + " | phase 0 0 = BAD | phase 4 0 = BAD | phase 1 240 = BAD");
        edge.refused("signal 0 0 | signal 0 0 | 6 * phase 1 0 | start", "phase 1 0 = STATE | phase 3 0 = STATE | phase 4 0 = BAD");
        edge.says("SIGNALS that come later are not in it");
        edge.play("signal 0 0 | phase 1 0 | signal 0 0 = 1 | phase 2 0 = 1 | phaseOf 0 0 = 1 | phase 3 0 = STATE");
    }

    private static void start() {
        edge.promise("promise 9");
        edge.says("STATE: already, no PHASES; how many PHASES");
        edge.refused("", "start = STATE");
        edge.refused(State.WITH_SIGNALS, "start = STATE");
        edge.play("signal 0 0 | phase 1 0 | start = 1 | start = STATE");
        edge.play("signal 0 0 | 6 * phase 1 0 | start = 6 | start = STATE");
        edge.refused(State.STARTED, "start = STATE");
        edge.refused("signal 0 0 | phase 1 0 | start", "start = STATE");
        edge.says("STARTED: PHASE 0 comes ON, all SIGNALS are RED, SECOND is 0");
        edge.play(State.SET_UP, "told 1 = NEVER | phaseOf 0 2 = 0 | start = 3 | told 1 = 0 | phaseOf 0 2 = 1 | phaseOf 1 2 = 0"
            + " | phaseOf 2 2 = 0 | told 0 = 0 | told 7 = 0",
            "told 8 = 0 | of 0 6 = 0 | of 3 6 = 0 | told 2 = NEVER | told 3 = NEVER | told 4 = 0 | of 0 5 = 5 | of 0 9 = NEVER"
                + " | told 10 = 7");
    }
}
