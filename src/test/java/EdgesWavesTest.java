/** Boundaries of promises 30 to 35 and of the document's words on waves. */
public final class EdgesWavesTest {
    private static final Edge edge = new Edge("EdgesWavesTest");

    public static void main(String[] args) {
        wave();
        node();
        change();
        band();
        open();
        travels();
        nodeBest();
        tune();
        counted();
        edge.end();
    }

    private static void wave() {
        String bad = "wave 19 = BAD | wave 61 = BAD | wave 0 = BAD | wave -1 = BAD | wave MIN = BAD | wave MAX = BAD";
        edge.promise("promise 30");
        edge.says("a ROUND (20 .. 60; 30 at first): what ROUND was");
        edge.play("count 7 = 30 | wave 20 = 30 | count 7 = 20 | wave 60 = 20 | count 7 = 60 | wave 21 = 60 | wave 59 = 21 | wave 30 = 59");
        edge.refused("", bad);
        edge.refused(State.SET_UP, bad);
        edge.refused(State.STARTED, bad);
        edge.says("there are no NODES then");
        edge.play("5 * node 0 1 0 | count 4 = 5 | wave 30 = 30 | count 4 = 0 | band 2 = 0 | change 0 0 0 = NONE | node 29 30 99 = 0"
            + " | count 4 = 1 | wave 20 = 30 | count 4 = 0 | node 29 1 0 = BAD | node 0 1 0 = 0");
        edge.says("SECOND, STARTED or not do not matter");
        edge.play(State.STARTED, "wave 60 = 40 | count 4 = 0 | count 7 = 60");
    }

    private static String by(int round, String calls) {
        return calls.replace("LAST", Integer.toString(round - 1)).replace("ROUND", Integer.toString(round))
            .replace("MORE", Integer.toString(round + 1));
    }

    private static void node() {
        edge.promise("promise 31");
        edge.says("an OFFSET (below ROUND), LONG (1 .. ROUND), TRAVEL to the next one (0 .. 99)");
        for (int round : new int[] {20, 30, 60}) {
            String wave = "wave " + round;
            edge.play(wave, by(round, "node 0 1 0 = 0 | node LAST ROUND 99 = 1 | node 0 LAST 98 = 2 | node LAST 1 1 = 3 | count 4 = 4"));
            edge.refused(wave, by(round, "node -1 1 0 = BAD | node ROUND 1 0 = BAD | node MIN 1 0 = BAD | node MAX 1 0 = BAD"
                + " | node 0 0 0 = BAD | node 0 -1 0 = BAD | node 0 MORE 0 = BAD | node 0 MIN 0 = BAD | node 0 MAX 0 = BAD"
                + " | node 0 1 -1 = BAD | node 0 1 100 = BAD | node 0 1 MIN = BAD | node 0 1 MAX = BAD"));
        }
        edge.refused(State.STARTED, "node 40 1 0 = BAD | node 0 41 0 = BAD | node 0 0 0 = BAD | node 0 1 100 = BAD");
        edge.says("NODES 0 .. 4, as they come: its number. BAD; FULL");
        edge.play("4 * node 0 1 0 | node 29 30 99 = 4 | node 0 1 0 = FULL | count 4 = 5 | change 4 0 1 = 29 | change 4 1 1 = 30"
            + " | change 4 2 1 = 99 | change 5 0 1 = NONE");
        edge.refused("5 * node 0 1 0", "node 0 1 0 = FULL | node 29 30 99 = FULL | node 30 1 0 = BAD | node 0 0 0 = BAD"
            + " | node 0 31 0 = BAD | node 0 1 100 = BAD | node -1 1 0 = BAD");
    }

    private static void change() {
        edge.promise("promise 32");
        edge.says("what 0 OFFSET, 1 LONG, 2 TRAVEL becomes v: what it was");
        for (int round : new int[] {20, 30, 60}) {
            String nodes = "wave " + round + " | node 1 2 3 | node 4 5 6";
            edge.play(nodes, by(round, "change 1 0 0 = 4 | change 1 0 LAST = 0 | change 1 0 1 = LAST | change 1 1 1 = 5"
                + " | change 1 1 ROUND = 1 | change 1 1 2 = ROUND | change 1 2 0 = 6 | change 1 2 99 = 0 | change 1 2 1 = 99"
                + " | change 0 0 0 = 1 | change 0 1 1 = 2 | change 0 2 0 = 3"));
            edge.refused(nodes, by(round, "change 1 0 -1 = BAD | change 1 0 ROUND = BAD | change 0 0 MIN = BAD | change 0 0 MAX = BAD"
                + " | change 1 1 0 = BAD | change 1 1 -1 = BAD | change 1 1 MORE = BAD | change 0 1 MAX = BAD | change 0 1 MIN = BAD"
                + " | change 1 2 -1 = BAD | change 1 2 100 = BAD | change 0 2 MIN = BAD | change 0 2 MAX = BAD"));
        }
        edge.says("NONE; BAD");
        edge.refused("", "change 0 0 0 = NONE | change -1 0 0 = NONE");
        edge.refused(State.STARTED, "change 2 0 0 = NONE | change -1 0 0 = NONE | change MIN 0 0 = NONE | change MAX 0 0 = NONE"
            + " | change 0 -1 0 = NONE | change 0 3 0 = NONE | change 0 MIN 0 = NONE | change 0 MAX 0 = NONE | change 2 0 -1 = NONE"
            + " | change 0 3 -1 = NONE | change 0 0 40 = BAD | change 0 1 0 = BAD | change 0 2 100 = BAD");
    }

    private static void band() {
        String none = "band -1 = NONE | band 3 = NONE | band MIN = NONE | band MAX = NONE";
        edge.promise("promise 33");
        edge.says("way 0 ON, 1 BACK, 2 both together. NONE");
        edge.refused("", none);
        edge.refused(State.STARTED, none);
        edge.says("(each is 0 without NODES)");
        edge.play("band 0 = 0 | band 1 = 0 | band 2 = 0 | wave 60 | band 0 = 0 | band 1 = 0 | band 2 = 0");
        edge.says("one NODE: it is open in LONG of ROUND SECONDS, whatever its OFFSET and TRAVEL");
        edge.play("node 0 1 0 | band 0 = 1 | band 1 = 1 | band 2 = 2 | change 0 0 29 | band 2 = 2 | change 0 1 30 | band 0 = 30"
            + " | band 1 = 30 | band 2 = 60 | change 0 1 29 | band 2 = 58 | change 0 2 99 | band 2 = 58");
        edge.play("wave 60 | node 59 60 99 | band 2 = 120 | change 0 1 59 | band 2 = 118 | change 0 1 1 | band 2 = 2");
        edge.play("wave 20 | node 19 20 99 | band 2 = 40 | change 0 1 19 | band 2 = 38 | change 0 1 1 | band 2 = 2");
        edge.says("five NODES");
        edge.play("wave 60 | 4 * node 30 60 99 | node 0 60 99 | band 2 = 120 | change 4 1 1 | band 2 = 2 | change 4 1 59 | band 2 = 118");
    }

    private static void open() {
        String two = "wave 20 | node 0 1 0 | node 5 3 0";
        edge.promise("terms 3");
        edge.says("open in a SECOND, if that less OFFSET, modulo ROUND (not below 0), is below LONG");
        int[] travels = {0, 4, 5, 6, 7, 8, 19, 24, 25, 27, 28, 44, 45, 47, 48, 84, 85, 87, 88, 99};
        int[] ons = {0, 0, 1, 1, 1, 0, 0, 0, 1, 1, 0, 0, 1, 1, 0, 0, 1, 1, 0, 0};
        for (int k = 0; k < travels.length; k++) {
            edge.play(two, "change 0 2 " + travels[k] + " | band 0 = " + ons[k]);
        }
        // the last one is open in 5, 6, 7, the first one in 0
        int[] backTravels = {0, 12, 13, 14, 15, 16, 32, 33, 35, 36, 92, 93, 95, 96, 99};
        int[] backs = {0, 0, 1, 1, 1, 0, 0, 1, 1, 0, 0, 1, 1, 0, 0};
        for (int k = 0; k < backTravels.length; k++) {
            edge.play(two, "change 0 2 " + backTravels[k] + " | band 1 = " + backs[k]);
        }
        edge.says("it is open across the ROUND's end");
        edge.play("wave 20 | node 18 4 0 | node 0 1 0 | band 0 = 1 | change 1 0 1 | band 0 = 1 | change 1 0 2 | band 0 = 0"
            + " | change 1 0 18 | band 0 = 1 | change 1 0 17 | band 0 = 0 | change 1 0 19 | band 0 = 1");
        edge.says("ROUNDS of 20 and 60");
        edge.play("wave 60 | node 59 1 1 | node 0 1 0 | band 0 = 1 | band 1 = 0 | change 0 2 59 | band 0 = 0 | band 1 = 1 | change 0 2 61"
            + " | band 0 = 1 | change 0 2 60 | band 2 = 0");
        edge.play("wave 20 | node 19 1 1 | node 0 1 0 | band 0 = 1 | band 1 = 0 | change 0 2 19 | band 0 = 0 | band 1 = 1 | change 0 2 21"
            + " | band 0 = 1 | change 0 2 20 | band 2 = 0");
        edge.says("who comes to each NODE (0, too) as it is open");
        edge.play("wave 20 | node 0 10 0 | node 10 10 0 | band 2 = 0 | change 1 0 9 | band 0 = 1 | band 1 = 1 | change 1 1 20"
            + " | band 2 = 20 | change 0 1 20 | band 2 = 40");
    }

    private static void travels() {
        edge.promise("terms 3");
        edge.says("goes on by TRAVELS; BACK: likewise from the last one, by the same TRAVELS; the last one's does not matter");
        String on = "wave 20 | node 0 1 3 | node 3 1 4 | node 7 1 99";
        edge.play(on, "band 0 = 1 | band 1 = 0 | change 2 2 0 | band 0 = 1 | change 0 2 2 | band 0 = 0 | change 0 2 4 | band 0 = 0"
            + " | change 0 2 3 | change 1 2 3 | band 0 = 0 | change 1 2 5 | band 0 = 0 | change 1 2 24 | band 0 = 1");
        String back = "wave 20 | node 14 1 3 | node 11 1 4 | node 7 1 99";
        edge.play(back, "band 1 = 1 | band 0 = 0 | change 2 2 0 | band 1 = 1 | change 0 2 2 | band 1 = 0 | change 0 2 4 | band 1 = 0"
            + " | change 0 2 3 | change 1 2 3 | band 1 = 0 | change 1 2 5 | band 1 = 0 | change 1 2 84 | band 1 = 1");
        edge.says("the greatest TRAVELS, 4 times");
        edge.play("wave 60 | node 0 1 99 | node 39 1 99 | node 18 1 99 | node 57 1 99 | node 36 1 99", "band 0 = 1 | band 1 = 0"
            + " | change 4 0 37 | band 0 = 0 | change 4 0 35 | band 0 = 0");
        edge.play("wave 60 | node 36 1 99 | node 57 1 99 | node 18 1 99 | node 39 1 99 | node 0 1 99", "band 1 = 1 | band 0 = 0"
            + " | change 0 0 37 | band 1 = 0 | change 0 0 35 | band 1 = 0");
    }

    private static void nodeBest() {
        String none = "nodeBest 2 0 = NONE | nodeBest -1 0 = NONE | nodeBest MIN 0 = NONE | nodeBest MAX 0 = NONE | nodeBest 0 -1 = NONE"
            + " | nodeBest 0 2 = NONE | nodeBest 0 MIN = NONE | nodeBest 0 MAX = NONE";
        edge.promise("promise 34");
        edge.says("NONE; FULL");
        edge.refused("", "nodeBest 0 0 = NONE | nodeBest -1 0 = NONE | nodeBest 0 2 = NONE");
        edge.refused(State.STARTED, none);
        edge.refused(State.STARTED + State.COUNTED_BEHIND_STARTED, "nodeBest 0 0 = FULL | nodeBest 1 1 = FULL | " + none);
        edge.refused(State.ALL_COUNTED.substring(3), "nodeBest 0 0 = NONE");
        edge.says("that by which both BANDS together are greatest, of like ones the least");
        edge.play("node 29 7 5 | nodeBest 0 0 = 0 | nodeBest 0 1 = 14 | change 0 0 3 = 29");
        edge.play("wave 20 | node 0 1 0 | node 5 1 0 | nodeBest 1 0 = 0 | nodeBest 1 1 = 2 | nodeBest 0 0 = 5 | nodeBest 0 1 = 2"
            + " | change 0 0 19 = 0 | nodeBest 1 0 = 19 | nodeBest 1 1 = 2 | change 1 0 1 = 5");
        edge.play("wave 20 | node 0 1 19 | node 5 1 0 | nodeBest 1 0 = 1 | nodeBest 1 1 = 1 | change 0 2 10 | nodeBest 1 0 = 10"
            + " | nodeBest 1 1 = 2 | change 0 2 1 | nodeBest 1 0 = 1 | nodeBest 1 1 = 1");
        edge.play("wave 60 | node 59 1 0 | node 0 1 0 | nodeBest 1 0 = 59 | nodeBest 1 1 = 2 | nodeBest 0 0 = 0");
        edge.says("none is good: 0");
        edge.play("wave 20 | node 0 1 0 | node 1 1 0 | node 2 1 0 | nodeBest 2 0 = 0 | nodeBest 2 1 = 0 | nodeBest 0 0 = 0 | band 2 = 0");
        edge.says("the last of five");
        edge.play("wave 20 | 4 * node 7 1 0 | node 0 1 0 | band 2 = 0 | nodeBest 4 0 = 7 | nodeBest 4 1 = 2 | band 2 = 0"
            + " | nodeBest 5 0 = NONE");
    }

    private static void tune() {
        edge.promise("promise 35");
        edge.says("FULL");
        edge.refused(State.STARTED + State.COUNTED_BEHIND_STARTED, "tune = FULL");
        edge.refused(State.ALL_COUNTED.substring(3), "tune = FULL");
        edge.says("without NODES, with one");
        edge.play("tune = 0 | node 29 30 99 | tune = 60 | change 0 0 5 = 29 | tune = 60 | change 0 0 1 = 5");
        edge.says("gets its BEST OFFSET, but keeps the one it has if that is as good");
        edge.play("wave 20 | node 3 1 0 | node 9 1 0 | tune = 2 | change 0 0 0 = 9 | change 1 0 0 = 9");
        edge.play("wave 20 | node 9 1 0 | node 9 1 0 | tune = 2 | change 0 0 0 = 9 | change 1 0 0 = 9");
        edge.play("wave 20 | node 0 1 1 | node 19 1 0 | band 0 = 0 | band 1 = 1 | tune = 1 | change 0 0 0 = 0 | change 1 0 0 = 19");
        edge.play("wave 20 | node 5 1 0 | node 6 1 0 | node 7 1 0 | tune = 0 | change 0 0 0 = 5 | change 1 0 0 = 6 | change 2 0 0 = 7");
        edge.says("so 4 times: by 3 times they are 13 together, by 5 times 16");
        edge.play("wave 33 | node 30 17 23 | node 15 23 26 | node 17 16 10 | node 9 14 17 | node 0 12 29 | tune = 15 | band 2 = 15");
        edge.says("of like ones the least");
        edge.play("wave 20 | node 0 20 0 | node 4 1 19 | node 7 1 0 | tune = 1 | change 0 0 0 = 0 | change 1 0 0 = 6 | change 2 0 0 = 7");
    }

    private static void counted() {
        String started = "signal 0 0 | phase 1 0 | start | node 0 1 0";
        edge.promise("answers");
        edge.says("by nodeBest() 10, by tune() 200, 12000 in all: what would be more is FULL (and isn't counted)");
        edge.play(started, "nodeBest 0 0 | count 5 = 10 | nodeBest 0 1 | count 5 = 20 | tune | count 5 = 220 | nodeBest 1 0 = NONE"
            + " | count 5 = 220 | nodeBest 0 2 = NONE | count 5 = 220 | band 2 | count 5 = 220");
        edge.play(started, "59 * tune | count 5 = 11800 | tune = 2 | count 5 = 12000 | tune = FULL | nodeBest 0 0 = FULL"
            + " | count 5 = 12000");
        edge.play(started, "59 * tune | pass 1 | tune = FULL | count 5 = 11801 | pass 99 | pass 89 | count 5 = 11989 | nodeBest 0 0 = 0"
            + " | count 5 = 11999 | nodeBest 0 0 = FULL | nodeBest 0 1 = FULL | count 5 = 11999 | pass 1 | count 5 = 12000");
        edge.play(started, "59 * tune | pass 99 | pass 91 | count 5 = 11990 | nodeBest 0 1 = 2 | count 5 = 12000 | nodeBest 0 1 = FULL");
        edge.play(started, "59 * tune | pass 99 | pass 92 | count 5 = 11991 | nodeBest 0 1 = FULL | nodeBest 0 0 = FULL"
            + " | nodeBest 1 0 = NONE | count 5 = 11991");
    }
}
