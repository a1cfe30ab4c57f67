/** Boundaries of promises 46 to 53: judging, the image, tapes. */
public final class EdgesTapesTest {
    private static final Edge edge = new Edge("EdgesTapesTest");
    /** Signals 0 and 1 meet, 2 does not; behind it the lights are amber, red, red. */
    private static final String LIGHTS = "text 'ca1;ca1;cb1' | read | phase 1 0 | phase 2 0 | start | come 1 1 | pass 6 | of 0 6 = 1"
        + " | of 1 6 = 0 | of 2 6 = 0";

    public static void main(String[] args) {
        judge();
        judgeOfEight();
        image();
        undo();
        imageHoldsAll();
        count();
        tape();
        item();
        peek();
        shift();
        shiftRefused();
        edge.end();
    }

    private static void judge() {
        edge.promise("promise 46");
        edge.says("NONE: tape; CAST: it is no row of bytes");
        String none = "judge -1 0 = NONE | judge 6 0 = NONE | judge MIN 0 = NONE | judge MAX 0 = NONE | judge 6 -1 = NONE";
        edge.refused("", none);
        edge.refused(State.STARTED, none + " | judge 1 0 = CAST | judge 1 -1 = CAST | judge 1 60 = CAST");
        for (int sort = 1; sort < 5; sort++) {
            edge.refused("tape 5 " + sort + " 0", "judge 5 0 = CAST | judge 5 -1 = CAST | judge 6 0 = NONE");
            edge.refused(LIGHTS + " | tape 0 " + sort + " 60", "judge 0 0 = CAST | judge 0 60 = CAST | judge 0 MIN = CAST"
                + " | judge 0 MAX = CAST");
        }
        edge.says("-5: none, or there are no SIGNALS");
        edge.play("judge 0 0 = NEVER | judge 5 0 = NEVER | tape 0 0 0 | judge 0 0 = NEVER | tape 0 0 9 | judge 0 0 = NEVER"
            + " | judge 0 9 = NEVER");
        edge.play(LIGHTS, "tape 0 0 3 | item 0 0 1 | judge 0 0 = NEVER | tape 0 0 60 | item 0 57 1 | judge 0 57 = NEVER | item 0 20 1"
            + " | judge 0 20 = NEVER");
        edge.play("signal 0 0 | tape 5 0 1 | judge 5 0 = NEVER | item 5 0 1 | judge 5 0 = 0 | item 5 0 2 | judge 5 0 = 0 | item 5 0 3"
            + " | judge 5 0 = 0 | item 5 0 -1 | judge 5 0 = 0 | item 5 0 256 | judge 5 0 = NEVER");
        edge.says("the first that is otherwise");
        edge.play(LIGHTS, "tape 0 0 3 | judge 0 0 = 0 | item 0 0 1 | item 0 1 1 | judge 0 0 = 1 | item 0 2 1 | judge 0 0 = 1 | item 0 1 0"
            + " | judge 0 0 = 2 | item 0 2 0 | item 0 0 2 | judge 0 0 = 0");
        edge.play(LIGHTS, "pass 5 | of 0 6 = 0 | of 1 6 = 2 | tape 0 0 3 | judge 0 0 = 1 | item 0 1 2 | judge 0 0 = NEVER | item 0 1 1"
            + " | judge 0 0 = 1 | item 0 1 258 | judge 0 0 = NEVER");
        edge.says("100 and how many were looked at, if the row ends ahead of that");
        edge.play(LIGHTS, "tape 0 0 0 | judge 0 0 = 100 | tape 0 0 1 | item 0 0 1 | judge 0 0 = 101 | judge 0 1 = 100 | tape 0 0 2"
            + " | item 0 0 1 | judge 0 0 = 102 | judge 0 2 = 100 | item 0 1 1 | judge 0 0 = 1 | judge 0 1 = 101");
        edge.play(LIGHTS, "tape 0 0 60 | item 0 57 1 | item 0 58 1 | item 0 59 1 | judge 0 57 = 1 | judge 0 58 = 1 | judge 0 59 = 101"
            + " | judge 0 60 = 100 | judge 0 61 = 100 | judge 0 MAX = 100 | item 0 59 0 | judge 0 58 = 102 | judge 0 59 = 0");
        edge.says("(or the place is below 0, or the TAPE holds nothing)");
        edge.play(LIGHTS, "judge 0 0 = 100 | judge 0 -1 = 100 | judge 0 MAX = 100 | tape 0 0 9 | item 0 0 1 | judge 0 -1 = 100"
            + " | judge 0 MIN = 100 | judge 0 0 = NEVER | tape 0 2 9 | judge 0 0 = CAST | tape 0 -1 0 | judge 0 0 = 100");
    }

    private static void judgeOfEight() {
        edge.promise("promise 46");
        edge.says("LIGHTS of SIGNALS, by numbers");
        String eight = "text 'ca1;ca2;ca3;ca4' | read | text 'ca5;ca6;ca7;ca8' | read | phase 1 0 | phase 128 0 | start | emergency 7"
            + " | pass 1";
        edge.play(eight, "tape 0 0 8 | judge 0 0 = 7 | item 0 7 2 | judge 0 0 = NEVER | tape 0 0 7 | judge 0 0 = 107 | tape 0 0 60"
            + " | item 0 59 2 | judge 0 52 = NEVER | judge 0 53 = 6 | judge 0 51 = 7");
    }

    private static void image() {
        edge.promise("promise 47");
        edge.says("THE IMAGE is taken: SECOND");
        edge.play("image = 0 | undo = 0 | image = 0");
        edge.play(LIGHTS, "image = 6 | pass 1 | undo = 6 | pass 99 | image = 105 | pass 5 | undo = 105 | undo = 105 | told 0 = 105");
        edge.says("it takes the place of an earlier one");
        edge.play(LIGHTS, "image | come 2 5 | image | come 2 5 = 10 | undo | of 2 5 = 5 | undo | of 2 5 = 5");
    }

    private static void undo() {
        edge.promise("promise 48");
        edge.says("STATE: there is none");
        edge.refused("", "undo = STATE");
        edge.play(LIGHTS, "undo = STATE | told 0 = 6 | image = 6 | undo = 6");
        edge.play("signal 0 0 | undo = STATE | told 16 = 1 | image = 0 | signal 0 0 | undo = 0 | told 16 = 1");
        edge.says("All is as THE IMAGE: what was SET UP is so again");
        edge.play("image | signal 0 0 | signal 0 0 | phase 1 0 | start | undo = 0 | told 16 = 0 | told 17 = 0 | start = STATE"
            + " | of 0 0 = NONE | signal 3 7 = 0 | of 0 11 = 1 | way 0 0 = 7 | of 0 12 = 0");
        edge.play("signal 0 0 | image | signal 0 0 | goes 0 1 | undo | goes 0 1 = 2 | of 0 12 = 0 | table 0 = 0 | signal 0 1 = 1"
            + " | narrow 0 1 = 1 | clear 0 1 = 6 | clear 1 0 = 4");
        edge.play("signal 0 0 | phase 1 0 | image | start | undo = 0 | told 1 = NEVER | pass 1 = STATE | signal 0 9 = 1 | phase 2 0 = 1"
            + " | safety 4 = 1 | start = 2 | phaseOf 0 2 = 1");
        edge.says("what is STARTED is so again");
        edge.play(LIGHTS, "image | emergency 0 | pass 20 | undo | told 3 = NEVER | told 1 = 1 | of 0 6 = 1 | count 6 = 1 | pass 5"
            + " | told 7 = 2 | of 1 7 = 10");
    }

    private static void imageHoldsAll() {
        edge.promise("promise 48");
        edge.says("THE IMAGE: all of 1 and 2, THE WAVE, GREENS told, NOTES, the PLAN");
        String changes = " | tell 0 1 77 | tell 1 0 2 | tell 2 2 9 | tell 3 3 33 | seed 99 | come 0 9 | cycle 77 7 7 | green 2 7 8"
            + " | note 7 7 | plan 2 0 | change 0 0 0 | change 1 1 1 | change 0 2 9";
        String ways = " | signal 1 2 | goes 0 7 | safety 5";
        edge.alike(State.WITH_SIGNALS + " | image" + changes + ways + " | undo = 0", State.WITH_SIGNALS + " | image");
        edge.alike(State.WITH_SIGNALS + " | image | phase 1 0 | phase 2 0 | start | pass 3 | green -1 0 0 | note -1 0 | plan -1 0 | wave 20"
            + " | node 1 1 1 | undo = 0", State.WITH_SIGNALS + " | image | phase 1 0 | start | would 3 0 | undo");
        String going = changes + " | over | pass 99 | emergency 1 | pass 99 | over | emergency 0 | pass 2";
        edge.alike(State.STARTED + " | image" + going + " | undo = 55", State.STARTED + " | image | would 99 0 | would 99 0 | would 2 0");
        edge.alike(State.STARTED + " | image | green -1 0 0 | note -1 0 | plan -1 0 | wave 20 | node 1 1 1 | cycle 0 0 0 | undo = 55",
            State.STARTED + " | image");
        edge.says("(not THE TEXT, TAPES)");
        String others = " | text 'a1' | tape 0 4 9 | item 0 8 1 | tape 1 -1 0 | tape 3 3 60 | item 3 59 LMAX";
        edge.alike(State.STARTED + " | image" + others + " | undo = 55", State.STARTED + " | image" + others);
        edge.play("image | feed 99 | tape 0 0 1 | undo = 0 | count 0 = 1 | peek 0 0 = 0 | text 'a1' | read = 1 | image | undo"
            + " | count 0 = 0 | told 16 = 1");
        edge.says("of the last SIGNALS, the last NODE");
        String last = "7 * signal 0 1 | signal 0 2 | 5 * node 0 1 0";
        edge.alike(last + " | image | goes 7 1 | goes 6 2 | goes 5 9 | change 4 0 5 | change 4 1 6 | change 4 2 7 | undo = 0", last + ""
            + " | image");
        edge.play(last, "image | goes 7 1 | undo | of 7 12 = 0 | narrow 7 6 = NEVER | goes 7 3 = 2 | of 7 12 = 0 | way 7 1 = 3 | goes 7 1 = 3",
            "narrow 7 6 = 1 | clear 7 6 = 7 | clear 6 7 = 4");
        edge.says("of what is full");
        String full = "8 * signal 0 0 | 6 * phase 1 0 | 5 * node 0 1 0 | 8 * green 0 0 1 | 5 * note 0 1 | 8 * plan 0 1";
        edge.alike(full + " | image | wave 60 | green -1 0 0 | note -1 0 | plan -1 0 | undo = 0", full + " | image");
        edge.play(full, "image | green -1 0 0 | undo | green 0 0 1 = FULL | note 0 0 = FULL | plan 0 0 = FULL | node 0 1 0 = FULL"
            + " | phase 1 0 = FULL | signal 0 0 = FULL");
        String quick = "text 'ba1*1/1~1@60;ba1*1/1~1@60' | read | phase 1 0 | phase 2 0 | start | pass 99 | pass 99";
        edge.alike(quick + " | image | pass 99 | undo = 198", quick + " | image | would 99 0");
    }

    private static void count() {
        String bad = "count -1 = BAD | count 8 = BAD | count MIN = BAD | count MAX = BAD";
        edge.promise("promise 49");
        edge.says("what 0 .. 7. BAD");
        edge.refused("", bad);
        edge.refused(State.STARTED, bad);
        edge.says("of what is empty and of what is full");
        edge.play("count 0 = 0 | count 1 = 0 | count 2 = 0 | count 3 = 0 | count 4 = 0 | count 5 = 0 | count 6 = 0 | count 7 = 30"
            + " | signal 0 0 | phase 1 0 | start",
            "100 * feed 0 | 5 * note 0 0 | 8 * plan 0 0 | 8 * green 0 0 1 | 5 * node 0 1 0 | 60 * tune | count 0 = 100 | count 1 = 5"
                + " | count 2 = 8 | count 3 = 8 | count 4 = 5 | count 5 = 12000",
            "feed 0 = FULL | note 0 0 = FULL | plan 0 0 = FULL | green 0 0 1 = FULL | node 0 1 0 = FULL | tune = FULL | count 0 = 100"
                + " | count 1 = 5 | count 2 = 8 | count 3 = 8 | count 4 = 5 | count 5 = 12000");
        edge.play("wave 60 | count 7 = 60 | wave 20 | count 7 = 20");
    }

    private static String bySort(int sort, String calls) {
        return calls.replace("SORT", Integer.toString(sort));
    }

    private static void tape() {
        edge.promise("promise 50");
        edge.says("a row of n (0 .. 60) of a sort, all 0: 1");
        for (int sort = 0; sort < 5; sort++) {
            edge.play(bySort(sort, "tape 0 SORT 60 = 1 | peek 0 0 = 0 | peek 0 59 = 0 | peek 0 60 = NO | item 0 59 1 = 1 | item 0 60 1 = PLACE"
                + " | tape 0 SORT 60 = 1 | peek 0 59 = 0 | tape 5 SORT 0 = 1 | peek 5 0 = NO | item 5 0 1 = PLACE | tape 5 SORT 1 = 1"
                + " | item 5 0 1 = 1 | item 5 1 1 = PLACE | tape 5 SORT 59 = 1 | peek 5 0 = 0 | peek 5 58 = 0 | peek 5 59 = NO"));
        }
        edge.play("tape 0 3 60 | item 0 5 9 | tape 0 3 3 | tape 0 3 60 | peek 0 5 = 0 | item 0 5 9 | tape 0 -1 0 | tape 0 0 60"
            + " | peek 0 5 = 0");
        edge.says("(sort -1: n does not matter)");
        edge.play("tape 0 -1 0 = 1 | tape 0 -1 MIN = 1 | tape 0 -1 MAX = 1 | tape 0 -1 61 = 1 | tape 0 -1 -1 = 1 | tape 0 0 2"
            + " | peek 0 0 = 0 | tape 0 -1 61 = 1 | peek 0 0 = NO | item 0 0 1 = NOTHING | tape 5 -1 -1 = 1 | item 5 0 1 = NOTHING");
        edge.says("NONE: tape; BAD: sort, n above 60; SIZE");
        String refused = "tape -1 0 1 = NONE | tape 6 0 1 = NONE | tape MIN 0 1 = NONE | tape MAX 0 1 = NONE | tape 6 -1 0 = NONE"
            + " | tape -1 5 1 = NONE | tape 6 0 -1 = NONE | tape 0 5 1 = BAD | tape 0 -2 1 = BAD | tape 5 MIN 1 = BAD"
            + " | tape 5 MAX 1 = BAD"
            + " | tape 0 5 -1 = BAD | tape 0 -2 -1 = BAD | tape 0 5 61 = BAD | tape 0 0 61 = BAD | tape 0 4 61 = BAD | tape 1 2 MAX = BAD"
            + " | tape 0 0 -1 = SIZE | tape 0 4 -1 = SIZE | tape 5 2 MIN = SIZE";
        edge.refused("", refused);
        edge.refused(State.STARTED, refused);
        edge.refused("tape 0 3 60 | item 0 59 -1 | tape 5 2 3 | item 5 2 7", refused);
    }

    private static void holds(int sort, String given, String held) {
        edge.play("tape 3 " + sort + " 3 | item 3 1 " + given + " = 1 | peek 3 1 = " + held + " | peek 3 0 = 0 | peek 3 2 = 0");
    }

    private static void item() {
        edge.promise("promise 51");
        edge.says("its lowest bits, as many as an item has");
        String[][] values = {{"127", "128", "-128", "-129", "255", "256", "-1", "LMAX", "NO", "257"}, {"127", "-128", "-128", "127", "-1",
            "0", "-1", "-1", "0", "1"},
            {"32767", "32768", "-32768", "-32769", "65535", "65536", "-1", "LMAX", "NO", "65537"}, {"32767", "-32768", "-32768", "32767",
                "-1", "0", "-1", "-1", "0", "1"},
            {"2147483647", "2147483648", "-2147483648", "-2147483649", "4294967295", "4294967296", "-1", "LMAX", "NO", "4294967297"}, {
                "2147483647", "-2147483648", "-2147483648", "2147483647", "-1", "0", "-1", "-1", "0", "1"},
            {"LMAX", "NO", "-1", "0", "1", "4294967296"}, {"LMAX", "NO", "-1", "0", "1", "4294967296"}};
        for (int sort = 0; sort < 4; sort++) {
            for (int k = 0; k < values[2 * sort].length; k++) {
                holds(sort, values[2 * sort][k], values[2 * sort + 1][k]);
            }
        }
        edge.says("booleans: whether v is not 0");
        for (String given : new String[] {"1", "-1", "2", "256", "65536", "4294967296", "LMAX", "NO"}) {
            holds(4, given, "1");
        }
        edge.play("tape 0 4 1 | item 0 0 5 | peek 0 0 = 1 | item 0 0 0 = 1 | peek 0 0 = 0");
        edge.says("NONE; NOTHING; PLACE");
        String refused = "item -1 0 1 = NONE | item 6 0 1 = NONE | item MIN 0 1 = NONE | item MAX 0 1 = NONE | item 6 -1 1 = NONE"
            + " | item 4 0 1 = NOTHING | item 4 -1 1 = NOTHING | item 4 60 1 = NOTHING";
        edge.refused("", refused + " | item 0 0 1 = NOTHING | item 5 0 1 = NOTHING");
        edge.refused("tape 0 2 3 | tape 1 4 0 | tape 2 3 60 | tape 4 0 9 | tape 4 -1 0", refused + " | item 0 -1 1 = PLACE"
            + " | item 0 3 1 = PLACE | item 0 MIN 1 = PLACE | item 0 MAX 1 = PLACE | item 1 0 1 = PLACE | item 1 -1 1 = PLACE"
            + " | item 2 60 1 = PLACE");
        edge.play("tape 0 2 3 | item 0 0 7 = 1 | item 0 2 9 = 1 | peek 0 0 = 7 | peek 0 1 = 0 | peek 0 2 = 9 | tape 2 3 60"
            + " | item 2 59 4 = 1 | peek 2 59 = 4");
    }

    private static void peek() {
        edge.promise("promise 52");
        edge.says("NO: no such TAPE, nothing there, no such place");
        String no = "peek -1 0 = NO | peek 6 0 = NO | peek MIN 0 = NO | peek MAX 0 = NO | peek 5 0 = NO | peek 5 -1 = NO";
        edge.refused("", no + " | peek 0 0 = NO");
        edge.refused("tape 0 0 3 | tape 1 1 0 | tape 2 3 60", no + " | peek 0 -1 = NO | peek 0 3 = NO | peek 0 MIN = NO | peek 0 MAX = NO"
            + " | peek 1 0 = NO | peek 1 -1 = NO | peek 2 60 = NO | peek 2 -1 = NO");
        edge.play("tape 0 0 3 | peek 0 0 = 0 | peek 0 2 = 0 | tape 2 3 60 | item 2 59 -7 | peek 2 59 = -7 | item 2 0 NO | peek 2 0 = NO"
            + " | tape 2 -1 0 | peek 2 59 = NO | peek 2 0 = NO");
    }

    private static void shift() {
        String rows = "tape 0 2 4 | tape 1 2 2 | item 0 0 1 | item 0 1 2 | item 0 2 3 | item 0 3 4 | item 1 0 8 | item 1 1 9";
        edge.promise("promise 53");
        edge.says("n items of a TAPE from i on come to another one from j on: n");
        edge.play(rows, "shift 0 2 1 0 2 = 2 | peek 1 0 = 3 | peek 1 1 = 4 | peek 0 0 = 1 | peek 0 2 = 3 | peek 0 3 = 4"
            + " | shift 1 0 0 2 1 = 1 | shift 0 3 1 1 1 = 1 | shift 0 0 1 0 1 = 1 | peek 1 0 = 1 | peek 1 1 = 4");
        edge.says("(or the same) as they all were before");
        edge.play(rows, "shift 0 0 0 1 3 = 3 | peek 0 0 = 1 | peek 0 1 = 1 | peek 0 2 = 2 | peek 0 3 = 3");
        edge.play(rows, "shift 0 1 0 0 3 = 3 | peek 0 0 = 2 | peek 0 1 = 3 | peek 0 2 = 4 | peek 0 3 = 4");
        edge.play(rows, "shift 0 0 0 0 4 = 4 | peek 0 0 = 1 | peek 0 3 = 4 | shift 0 0 0 2 2 = 2 | peek 0 0 = 1 | peek 0 1 = 2"
            + " | peek 0 2 = 1 | peek 0 3 = 2");
        edge.says("none");
        edge.play(rows, "shift 0 0 1 0 0 = 0 | shift 0 4 1 2 0 = 0 | shift 0 4 0 4 0 = 0 | shift 1 2 0 4 0 = 0 | shift 0 4 1 0 0 = 0"
            + " | shift 0 0 1 2 0 = 0 | peek 1 0 = 8 | peek 1 1 = 9 | peek 0 0 = 1 | peek 0 3 = 4 | tape 2 2 0 | shift 2 0 2 0 0 = 0"
            + " | shift 2 0 0 4 0 = 0 | shift 0 4 2 0 0 = 0");
        edge.says("all 60");
        edge.play("tape 4 3 60 | tape 5 3 60 | item 4 0 1 | item 4 59 LMAX | shift 4 0 5 0 60 = 60 | peek 5 0 = 1 | peek 5 59 = LMAX"
            + " | shift 4 0 4 1 59 = 59 | peek 4 1 = 1 | peek 4 59 = 0 | shift 5 59 4 59 1 = 1 | peek 4 59 = LMAX");
        for (int sort = 0; sort < 5; sort++) {
            edge.play(bySort(sort, "tape 0 SORT 2 | tape 5 SORT 3 | item 0 0 1 | item 0 1 1 | shift 0 0 5 1 2 = 2 | peek 5 0 = 0 | peek 5 1 = 1"
                + " | peek 5 2 = 1"));
        }
    }

    private static void shiftRefused() {
        String rows = "tape 0 2 4 | tape 1 2 2 | tape 2 3 4 | tape 3 0 0 | item 0 0 1 | item 0 1 2 | item 0 2 3 | item 0 3 4 | item 1 0 8"
            + " | item 1 1 9 | item 2 0 5";
        edge.promise("promise 53");
        edge.says("NONE: tapes");
        edge.refused("", "shift -1 0 0 0 0 = NONE | shift 0 0 -1 0 0 = NONE | shift 6 0 0 0 0 = NONE | shift 0 0 6 0 0 = NONE"
            + " | shift 0 0 1 0 0 = NOTHING | shift 0 0 0 0 0 = NOTHING | shift 5 -1 5 -1 -1 = NOTHING");
        edge.refused(rows, "shift -1 0 0 0 1 = NONE | shift 6 0 0 0 1 = NONE | shift 0 0 -1 0 1 = NONE | shift 0 0 6 0 1 = NONE"
            + " | shift MIN 0 0 0 1 = NONE | shift MAX 0 0 0 1 = NONE | shift 0 0 MIN 0 1 = NONE | shift 0 0 MAX 0 1 = NONE"
            + " | shift 4 0 6 0 1 = NONE | shift 6 -1 4 -1 -1 = NONE");
        edge.says("NOTHING");
        edge.refused(rows, "shift 4 0 0 0 1 = NOTHING | shift 0 0 4 0 1 = NOTHING | shift 4 0 5 0 0 = NOTHING"
            + " | shift 0 -1 4 0 1 = NOTHING | shift 4 0 2 9 9 = NOTHING");
        edge.says("CAST: of unlike sorts");
        edge.refused(rows, "shift 0 0 2 0 1 = CAST | shift 2 0 0 0 1 = CAST | shift 0 0 3 0 0 = CAST | shift 3 0 0 0 0 = CAST"
            + " | shift 0 -1 2 0 1 = CAST | shift 2 0 1 9 1 = CAST | shift 0 0 2 0 -1 = CAST");
        edge.says("PLACE: n, i or j is below 0, or beyond either's end");
        edge.refused(rows, "shift 0 0 1 0 -1 = PLACE | shift 0 -1 1 0 1 = PLACE | shift 0 0 1 -1 1 = PLACE | shift 0 0 1 0 3 = PLACE"
            + " | shift 0 3 1 0 2 = PLACE | shift 0 4 1 0 1 = PLACE | shift 0 5 1 0 0 = PLACE | shift 0 0 1 3 0 = PLACE"
            + " | shift 0 0 1 2 1 = PLACE | shift 0 0 1 1 2 = PLACE"
            + " | shift 1 0 0 3 2 = PLACE | shift 1 0 0 4 1 = PLACE | shift 1 0 0 0 3 = PLACE | shift 0 0 0 1 4 = PLACE"
            + " | shift 0 1 0 0 4 = PLACE | shift 0 0 0 0 5 = PLACE | shift 0 -1 0 0 0 = PLACE | shift 0 0 0 -1 0 = PLACE");
        edge.refused(rows, "shift 0 MIN 1 0 1 = PLACE | shift 0 MAX 1 0 1 = PLACE | shift 0 0 1 MIN 1 = PLACE | shift 0 0 1 MAX 1 = PLACE"
            + " | shift 0 0 1 0 MIN = PLACE | shift 0 0 1 0 MAX = PLACE | shift 0 MAX 1 MAX MAX = PLACE | shift 0 1 1 1 MAX = PLACE"
            + " | shift 0 MIN 1 0 MAX = PLACE | shift 0 MAX 0 MAX 0 = PLACE | shift 0 4 0 4 1 = PLACE"
            + " | shift 3 0 3 0 1 = PLACE | shift 3 1 3 0 0 = PLACE | shift 3 0 3 1 0 = PLACE");
    }
}
