/** Promises 30 to 35: waves. */
public final class WavesTest {
    private static final int NONE = -1, BAD = -2, FULL = -4;
    private static final Due due = new Due("WavesTest");

    public static void main(String[] args) {
        wave();
        node();
        change();
        band();
        nodeBest();
        tune();
        due.end();
    }

    /** A round of 20, nodes open for 10 seconds from each offset on, a travel of 5 between them. */
    private static SafeClears street(int... offsets) {
        SafeClears x = new SafeClears();
        x.wave(20);
        for (int offset : offsets) {
            x.node(offset, 10, 5);
        }
        return x;
    }

    private static void wave() {
        due.promise(30, "wave");
        SafeClears x = new SafeClears();
        due.is("wave(60)", x.wave(60), 30);
        x.node(59, 60, 0);
        due.is("wave(19)", x.wave(19), BAD);
        due.is("wave(61)", x.wave(61), BAD);
        due.is("BAD changes nothing", x.count(4), 1);
        due.is("wave(20)", x.wave(20), 60);
        due.is("no nodes then", x.count(4), 0);
        due.is("count(7)", x.count(7), 20);
        x.node(0, 1, 0);
        due.is("the same again", x.wave(20), 20);
        due.is("no nodes then, too", x.count(4), 0);
    }

    private static void node() {
        due.promise(31, "node");
        SafeClears x = new SafeClears();
        due.is("node(29, 30, 99)", x.node(29, 30, 99), 0);
        int[][] bad = {{-1, 1, 0}, {30, 1, 0}, {0, 0, 0}, {0, 31, 0}, {0, 1, -1}, {0, 1, 100}};
        for (int[] v : bad) {
            due.is("node(" + v[0] + ", " + v[1] + ", " + v[2] + ")", x.node(v[0], v[1], v[2]), BAD);
        }
        for (int k = 1; k < 5; k++) {
            due.is("node(0, 1, 0)", x.node(0, 1, 0), k);
        }
        due.is("a sixth", x.node(0, 1, 0), FULL);
        due.is("BAD ahead of FULL", x.node(0, 31, 0), BAD);
        due.is("count(4)", x.count(4), 5);
    }

    private static void change() {
        due.promise(32, "change");
        SafeClears x = new SafeClears();
        due.is("no nodes", x.change(0, 0, 0), NONE);
        x.node(3, 4, 5);
        int[] was = {3, 4, 5};
        int[] high = {29, 30, 99};
        for (int what = 0; what < 3; what++) {
            int low = what == 1 ? 1 : 0;
            due.is("change(0, " + what + ", high)", x.change(0, what, high[what]), was[what]);
            due.is("change(0, " + what + ", above)", x.change(0, what, high[what] + 1), BAD);
            due.is("change(0, " + what + ", below)", x.change(0, what, low - 1), BAD);
            due.is("change(0, " + what + ", low)", x.change(0, what, low), high[what]);
        }
        due.is("what 3, NONE ahead of BAD", x.change(0, 3, -1), NONE);
        due.is("what -1", x.change(0, -1, 0), NONE);
        due.is("node 1", x.change(1, 0, 0), NONE);
        due.is("node -1", x.change(-1, 0, 0), NONE);
    }

    private static void band() {
        due.promise(33, "band");
        SafeClears none = new SafeClears();
        SafeClears x = street(0, 5);
        int[] without = {0, 0, 0, NONE};
        int[] with = {10, 0, 10, NONE};
        for (int way = 0; way < 4; way++) {
            due.is("without nodes band(" + way + ")", none.band(way), without[way]);
            due.is("band(" + way + ")", x.band(way), with[way]);
        }
        due.is("band(-1)", x.band(-1), NONE);
        x.change(1, 2, 77);
        due.is("the last one's travel does not matter", x.band(2), 10);
        x.change(0, 2, 7);
        due.is("two seconds late: on 8", x.band(0), 8);
        due.is("back: from 5 to 14, at 12 to 21, open from 20 on", x.band(1), 2);
        x.change(0, 2, 87);
        due.is("4 rounds more", x.band(0), 8);
        SafeClears three = street(0, 5, 10);
        due.is("three in a wave", three.band(0), 10);
        three.change(2, 0, 13);
        due.is("the third one late", three.band(0), 7);
        three.change(1, 1, 2);
        due.is("the second one open from 5 to 6: leave at 0 or 1, come at 10 or 11", three.band(0), 0);
        SafeClears whole = new SafeClears();
        whole.wave(60);
        whole.node(59, 60, 99);
        whole.node(0, 60, 0);
        due.is("always open", whole.band(2), 120);
        whole.change(0, 1, 1);
        due.is("open in 59 alone", whole.band(2), 2);
    }

    private static void nodeBest() {
        due.promise(34, "nodeBest");
        SafeClears x = street(0, 5);
        due.is("all offsets are alike: the least", x.nodeBest(1, 0), 0);
        due.is("both bands then", x.nodeBest(1, 1), 10);
        x.change(0, 2, 0);
        due.is("without a travel the same offset", x.nodeBest(0, 0), 5);
        due.is("both bands then", x.nodeBest(0, 1), 20);
        due.is("it changes nothing", x.band(2), 10);
        due.is("seconds counted", x.count(5), 40);
        due.is("node 2", x.nodeBest(2, 0), NONE);
        due.is("node -1", x.nodeBest(-1, 0), NONE);
        due.is("what 2", x.nodeBest(0, 2), NONE);
        due.is("what -1", x.nodeBest(0, -1), NONE);
        due.is("what is refused isn't counted", x.count(5), 40);
        for (int k = 0; k < 59; k++) {
            x.tune();
        }
        for (int k = 0; k < 16; k++) {
            due.is("up to 12000", x.nodeBest(0, 1), 20);
        }
        due.is("12000 counted", x.count(5), 12000);
        due.is("no more", x.nodeBest(0, 0), FULL);
        due.is("NONE ahead of FULL", x.nodeBest(2, 0), NONE);
    }

    private static void tune() {
        due.promise(35, "tune");
        due.is("without nodes", new SafeClears().tune(), 0);
        SafeClears x = street(3, 5);
        due.is("all offsets are alike", x.tune(), 10);
        due.is("so it keeps the one it has", x.change(0, 0, 0), 3);
        due.is("so it keeps the one it has", x.change(1, 0, 0), 5);
        SafeClears y = street(0, 7);
        y.change(0, 2, 0);
        due.is("seconds counted by none", y.count(5), 0);
        due.is("the first one comes to the second", y.tune(), 20);
        due.is("its offset", y.change(0, 0, 7), 7);
        due.is("the second one's", y.change(1, 0, 7), 7);
        for (int k = 1; k < 60; k++) {
            due.is("tune()", y.tune(), 20);
        }
        due.is("12000 counted", y.count(5), 12000);
        due.is("no more", y.tune(), FULL);
        SafeClears z = new SafeClears();
        z.wave(33);
        int[][] nodes = {{30, 17, 23}, {15, 23, 26}, {17, 16, 10}, {9, 14, 17}, {0, 12, 29}};
        for (int[] v : nodes) {
            z.node(v[0], v[1], v[2]);
        }
        due.is("by hand, three times", tunedByHand(nodes, 33, 3), 13);
        due.is("by hand, five times", tunedByHand(nodes, 33, 5), 16);
        due.is("four times", z.tune(), 15);
        due.is("by hand, four times", tunedByHand(nodes, 33, 4), 15);
        due.is("what it answers is what there is then", z.band(2), 15);
    }

    private static int tunedByHand(int[][] nodes, int round, int times) {
        int[][] row = new int[nodes.length][];
        for (int n = 0; n < nodes.length; n++) {
            row[n] = nodes[n].clone();
        }
        for (int k = 0; k < times * row.length; k++) {
            int[] node = row[k % row.length];
            int kept = node[0];
            int most = bands(row, round);
            for (int offset = 0; offset < round; offset++) {
                node[0] = offset;
                if (bands(row, round) > most) {
                    most = bands(row, round);
                    kept = offset;
                }
            }
            node[0] = kept;
        }
        return bands(row, round);
    }

    private static int bands(int[][] row, int round) {
        int many = 0;
        for (int second = 0; second < round; second++) {
            boolean on = true;
            boolean back = true;
            int gone = second;
            for (int n = 0; n < row.length; n++) {
                on &= Math.floorMod(gone - row[n][0], round) < row[n][1];
                gone += row[n][2];
            }
            gone = second;
            for (int n = row.length - 1; n >= 0; n--) {
                back &= Math.floorMod(gone - row[n][0], round) < row[n][1];
                gone += n > 0 ? row[n - 1][2] : 0;
            }
            many += (on ? 1 : 0) + (back ? 1 : 0);
        }
        return many;
    }
}
