import java.lang.reflect.Method;
import java.util.ArrayList;
import java.util.Arrays;
import java.util.HashMap;
import java.util.List;
import java.util.Map;
import java.util.Random;
import java.util.TreeMap;

/** Plays the same calls, drawn by fixed seeds, on SafeClears and on the plain Model: each answer must be alike. */
public final class ModelTest {
    /** What an argument is drawn from, besides wild values: a low and a high end for each. */
    private static final String[] FACE = {
        "signal 0 3 0 63", "goes 0 7 0 63", "tell 0 7 0 3 0 30", "feed 0 127", "read", "safety 0 5",
        "phase 1 255 0 60", "start", "cycle 20 60 0 40 1 40", "come 0 7 1 20", "seed -9 9", "emergency 0 7", "over",
        "pass 0 30", "told 0 18", "of 0 7 0 13", "way 0 7 0 7", "clear 0 7 0 7", "narrow 0 7 0 7", "table 0 3",
        "phaseOf 0 5 0 3", "taken 0 7 0 4", "recorded 0 23 0 2", "greens 0 7 0 3", "could 0 63 0 300 0 1",
        "crowded 0 300 0 1", "green 0 7 0 60 20 90", "proved", "wave 20 60", "node 0 59 1 60 0 99",
        "change 0 4 0 2 0 60", "band 0 2", "nodeBest 0 4 0 1", "tune", "would 0 40 0 18", "turns 0 7 0 60",
        "best 0 30 0 1", "note 0 200 0 255", "fits 0 1", "day -5 5 0 40", "chance -5 5 0 40 1 4 0 9000 0 1",
        "mean 0 1", "plan 0 3 0 7", "ends 0 1", "judge 0 5 0 9", "image", "undo", "count 0 7", "tape 0 5 0 4 0 20",
        "item 0 5 0 19 -9 9", "peek 0 5 0 19", "shift 0 5 0 19 0 5 0 19 0 9",
    };
    private static final long[] WILD = {-2, -1, 0, 1, 8, 9, 60, 64, 99, 100, 127, 128, 255, 256, 9998, 9999, 10000,
        99999, 100000, Integer.MAX_VALUE, Integer.MIN_VALUE, Integer.MAX_VALUE - 5};

    private static final Map<String, long[]> ENDS = new HashMap<>();
    private static final Map<String, Method> OURS = new TreeMap<>();
    private static final Map<String, Method> THEIRS = new HashMap<>();
    private static final Map<String, Integer> GOOD = new TreeMap<>();

    private final Random random;
    private final SafeClears ours = new SafeClears();
    private final Model theirs = new Model();
    private final List<String> calls = new ArrayList<>();

    private ModelTest(long seed) {
        random = new Random(seed);
    }

    private long between(long low, long high) {
        return low + (long) (random.nextDouble() * (high - low + 1));
    }

    private long call(String name, long... values) throws Exception {
        Method method = OURS.get(name);
        Class<?>[] types = method.getParameterTypes();
        Object[] arguments = new Object[types.length];
        for (int i = 0; i < types.length; i++) {
            arguments[i] = types[i] == int.class ? (Object) (int) values[i] : (Object) values[i];
        }
        calls.add(name + Arrays.toString(arguments));
        long want = ((Number) THEIRS.get(name).invoke(theirs, arguments)).longValue();
        long got = ((Number) method.invoke(ours, arguments)).longValue();
        if (got != want) {
            throw new IllegalStateException(calls + " answered " + got + ", due is " + want);
        }
        if (got >= 0) {
            GOOD.merge(name, 1, Integer::sum);
        }
        return got;
    }

    private long drawn(String name) throws Exception {
        long[] ends = ENDS.get(name);
        long[] values = new long[ends.length / 2];
        for (int i = 0; i < values.length; i++) {
            values[i] = between(ends[2 * i], ends[2 * i + 1]);
            if (random.nextInt(25) == 0) {
                values[i] = WILD[random.nextInt(WILD.length)];
            }
        }
        return call(name, values);
    }

    private void feedText(String text) throws Exception {
        for (int i = 0; i < text.length(); i++) {
            call("feed", text.charAt(i));
        }
    }

    private String clause() {
        StringBuilder text = new StringBuilder().append("cwtb".charAt(random.nextInt(4)));
        for (long k = between(1, random.nextInt(5) == 0 ? 9 : 4); k > 0; k--) {
            text.append((char) between('a', 'd')).append((char) between('1', '4'));
        }
        append(text, '*', 1, 22);
        append(text, '/', 3, 99);
        append(text, '~', 0, 9);
        append(text, '@', 0, 62);
        if (random.nextInt(12) == 0) {
            text.setCharAt(random.nextInt(text.length()), "a1*/~@;9 x0".charAt(random.nextInt(11)));
        }
        return text.toString();
    }

    private void append(StringBuilder text, char mark, int low, int high) {
        if (random.nextInt(3) == 0) {
            text.append(mark).append(between(low, random.nextInt(3) == 0 ? high : Math.min(high, low + 8)));
        }
    }

    private void setUp() throws Exception {
        long signals = between(1, 8);
        for (int k = 0; k < 40 && calls.size() < 150 && call("told", 16) < signals; k++) {
            if (random.nextInt(3) == 0) {
                feedText(clause() + (random.nextInt(3) == 0 ? ";" + clause() : ""));
                call("read");
            } else {
                long signal = call("signal", between(0, 3), between(0, 3) + 8 * between(0, 3));
                for (long c = between(0, 4); c > 0; c--) {
                    call("goes", signal, between(0, 3) + 8 * between(0, 3));
                }
                call("tell", signal, 0, between(1, 7));
                call("tell", signal, 3, between(-5, 40));
            }
        }
        for (int k = random.nextInt(20); k > 0; k--) {
            drawn(any("tell", "safety", "clear", "narrow", "table", "of", "way", "goes"));
        }
        long wanted = between(1, 6);
        for (int k = 0; k < 60 && calls.size() < 250 && call("told", 17) < wanted; k++) {
            long set = k % 2 == 0 ? 1L << random.nextInt(8) : between(1, 255) & between(1, 255);
            call("phase", set, between(0, 60));
        }
        call("start");
        if (random.nextInt(2) == 0) {
            call("cycle", between(20, 60), between(0, 25), between(1, 25));
        }
    }

    private String any(String... names) {
        return names[random.nextInt(names.length)];
    }

    private void play() throws Exception {
        String[] names = OURS.keySet().toArray(new String[0]);
        boolean busy = random.nextInt(3) > 0;
        boolean waves = random.nextInt(4) == 0;
        boolean noting = random.nextInt(4) == 0;
        boolean telling = random.nextInt(3) == 0;
        while (calls.size() < 500) {
            int kind = random.nextInt(10);
            if (busy && kind < 4) {
                drawn(any("pass", "pass", "come", "emergency", "over", "told", "of", "recorded", "phaseOf", "tell"));
            } else if (waves && kind < 6) {
                drawn(any("node", "change", "band", "nodeBest", "tune", "count"));
            } else if (kind == 6 && noting) {
                noteWhatWillBe();
            } else if (kind == 7 && telling) {
                tellLights();
            } else if (kind == 8 && telling) {
                tellGreens();
            } else if (kind == 9 && telling) {
                fillTapes();
            } else if (noting || random.nextInt(4) > 0) {
                drawn(any(names));
            } else {
                drawn(any("pass", "come", "told", "of", "could", "recorded", "greens"));
            }
        }
    }

    /** Notes that hold by the gaps as they are, so that some gaps fit. */
    private void noteWhatWillBe() throws Exception {
        long n = between(0, 61);
        long second = call("told", 0);
        long set = call("would", Math.min(n + 1, 99), 7);
        if (random.nextInt(2) == 0) {
            call("note", -1, 0);
        }
        if (set >= 0) {
            call("note", second + n, set);
        }
        drawn("fits");
    }

    private void tellGreens() throws Exception {
        call("green", -1, 0, 0);
        long start = between(0, 200);
        for (long k = between(1, 8); k > 0; k--) {
            long from = start + between(0, 60);
            call("green", between(0, 7), from, from + between(1, 20));
        }
        call("proved");
        for (int k = 0; k < 4; k++) {
            call("crowded", start + between(0, 90), 1);
            call("could", between(0, 3) + 8 * between(0, 3), start + between(0, 90), 1);
        }
    }

    private void fillTapes() throws Exception {
        long sort = between(0, 4);
        call("tape", 1, sort, between(3, 9));
        call("tape", 2, random.nextInt(4) == 0 ? between(0, 4) : sort, between(3, 9));
        for (int k = 0; k < 6; k++) {
            call("item", between(1, 2), between(0, 8), random.nextLong());
        }
        call("shift", between(1, 2), between(0, 4), between(1, 2), between(0, 4), between(0, 5));
        for (int k = 0; k < 6; k++) {
            call("peek", between(1, 2), between(0, 8));
        }
    }

    private void tellLights() throws Exception {
        call("tape", 0, 0, between(0, 9));
        long many = call("told", 16);
        for (int s = 0; s < many; s++) {
            call("item", 0, s, random.nextInt(9) == 0 ? between(-1, 3) : call("of", s, 6));
        }
        drawn("judge");
        call("judge", 0, 0);
    }

    public static void main(String[] args) throws Exception {
        for (String line : FACE) {
            String[] words = line.split(" ");
            long[] ends = new long[words.length - 1];
            for (int i = 0; i < ends.length; i++) {
                ends[i] = Long.parseLong(words[i + 1]);
            }
            ENDS.put(words[0], ends);
        }
        for (Method method : SafeClears.class.getDeclaredMethods()) {
            if (ENDS.containsKey(method.getName()) && java.lang.reflect.Modifier.isPublic(method.getModifiers())) {
                OURS.put(method.getName(), method);
                THEIRS.put(method.getName(), Model.class.getMethod(method.getName(), method.getParameterTypes()));
            }
        }
        if (OURS.size() != 52) {
            System.out.println("the face has " + OURS.size() + " methods, due are 52");
            System.exit(1);
        }
        int runs = args.length > 0 ? Integer.parseInt(args[0]) : 1500;
        int base = args.length > 1 ? Integer.parseInt(args[1]) : 0;
        for (int run = base; run < base + runs; run++) {
            ModelTest test = new ModelTest(run);
            try {
                if (run % 20 != 0) {
                    test.setUp();
                }
                test.play();
            } catch (Exception e) {
                System.out.println("run " + run + ": " + e + " " + e.getCause());
                System.exit(1);
            }
        }
        System.out.println(runs + " runs alike; answers of 0 and more: " + GOOD);
    }
}
