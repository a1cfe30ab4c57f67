import java.util.ArrayList;
import java.util.List;

/** Calls by whose answers all of an object's state is told; each part is for an object of its own. */
final class State {
    static final List<List<String>> PARTS = List.of(facts(), tapes(), table(), told(), image(), text());

    private static final String BEFORE = "text 'ca1b1*3/20~4@20;wb1c1*4/9;tc1d1@9;ba1c1~5' | read = 4 | safety 2 | wave 40"
        + " | node 3 20 7 | node 11 15 9 | green 0 2 9 | green 1 5 11 | green 3 30 35 | plan 0 9 | plan 3 1"
        + " | tape 0 0 5 | item 0 2 7 | tape 1 3 4 | item 1 3 -9 | seed 7 | come 0 5 | come 1 3 | come 3 2";
    /** Signals 0 to 3, no phase. */
    static final String WITH_SIGNALS = BEFORE + " | image | come 2 1 | text 'cb'";
    /** Signals 0 to 3, phases 0 to 2, not started. */
    static final String SET_UP = BEFORE + " | phase 5 10 | phase 2 20 | phase 8 15 | image | come 2 1 | text 'cb'";
    /** The same, started; a phase is cut for an emergency; some are green. */
    static final String STARTED = SET_UP + " | start = 3 | cycle 60 7 20 | pass 25 | image | note 60 0 | pass 21 | emergency 3 | pass 9"
        + " | come 1 4";
    /** All seconds are counted, of what was not started, and behind STARTED. */
    static final String ALL_COUNTED = " | 60 * tune | count 5 = 12000";
    static final String COUNTED_BEHIND_STARTED = " | 59 * tune | pass 99 | pass 46 | count 5 = 12000";

    private State() {
    }

    private static void add(List<String> calls, String name, int many, int whats) {
        for (int i = 0; i < many; i++) {
            for (int what = 0; what < whats; what++) {
                calls.add(name + " " + i + " " + what);
            }
        }
    }

    private static void add(List<String> calls, String name, int many) {
        for (int what = 0; what < many; what++) {
            calls.add(name + " " + what);
        }
    }

    private static List<String> facts() {
        List<String> calls = new ArrayList<>();
        add(calls, "told", 19);
        add(calls, "count", 8);
        add(calls, "table", 4);
        add(calls, "of", 8, 14);
        add(calls, "phaseOf", 6, 4);
        add(calls, "recorded", 24, 3);
        return calls;
    }

    private static List<String> tapes() {
        List<String> calls = new ArrayList<>();
        add(calls, "peek", 6, 60);
        for (int t = 0; t < 6; t++) {
            // by bits that only some sorts hold, the sort shows
            calls.add("item " + t + " 0 4328653314");
            calls.add("peek " + t + " 0");
        }
        return calls;
    }

    private static List<String> table() {
        List<String> calls = new ArrayList<>();
        add(calls, "way", 8, 8);
        add(calls, "clear", 8, 8);
        add(calls, "narrow", 8, 8);
        add(calls, "greens", 8, 4);
        return calls;
    }

    /** Greens told, the wave, notes, the plan; it is started for these, if it wasn't. */
    private static List<String> told() {
        List<String> calls = new ArrayList<>();
        for (int cell = 0; cell < 5; cell++) {
            for (int second = 0; second < 40; second += 3) {
                calls.add("could " + cell + " " + second + " 1");
            }
        }
        calls.add("proved");
        calls.add("start");
        add(calls, "ends", 2);
        add(calls, "fits", 2);
        add(calls, "band", 3);
        for (int what : new int[] {4, 5, 7, 10}) {
            calls.add("would 40 " + what);
        }
        for (int node = 0; node < 5; node++) {
            for (int what = 0; what < 3; what++) {
                calls.add("change " + node + " " + what + " 1");
            }
        }
        return calls;
    }

    private static List<String> image() {
        List<String> calls = new ArrayList<>();
        calls.add("undo");
        calls.addAll(facts());
        return calls;
    }

    private static List<String> text() {
        List<String> calls = new ArrayList<>();
        calls.add("read");
        add(calls, "of", 8, 5);
        add(calls, "way", 8, 8);
        return calls;
    }
}
