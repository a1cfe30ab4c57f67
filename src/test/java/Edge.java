import java.lang.reflect.Method;
import java.util.ArrayList;
import java.util.HashMap;
import java.util.List;
import java.util.Map;

/**
 * Looks at boundaries. Calls are written as a text: "signal 0 63 = 1 | signal 0 64 = BAD | 99 * pass 1", with the
 * answer that is due behind them; a call without one must not be refused, but for "? told 0", whose answer does not
 * matter. "text 'ca1;cb1'" feeds these signs.
 */
final class Edge {
    private static final int MOST_CALLS = 512;
    private static final Map<String, Method> FACE = new HashMap<>();
    private static final Map<String, Long> WORDS = new HashMap<>();
    private static final Map<String, Call> CALLS = new HashMap<>();

    static {
        for (Method method : SafeClears.class.getDeclaredMethods()) {
            FACE.put(method.getName(), method);
        }
        String[] words = {"NONE", "BAD", "STATE", "FULL", "NEVER", "NOTHING", "CAST", "PLACE", "SIZE", "NO", "MIN", "MAX",
            "LMAX"};
        long[] values = {-1, -2, -3, -4, -5, -11, -12, -13, -14, Long.MIN_VALUE, Integer.MIN_VALUE, Integer.MAX_VALUE,
            Long.MAX_VALUE};
        for (int i = 0; i < words.length; i++) {
            WORDS.put(words[i], values[i]);
        }
    }

    private final String name;
    private final Map<String, List<long[]>> statesBehind = new HashMap<>();
    private String promise = "";
    private String sentence = "";
    private int sentences;
    private int looked;
    private int wrong;

    Edge(String name) {
        this.name = name;
    }

    void promise(String what) {
        promise = what;
    }

    /** The document's words from which the answers come that are due next. */
    void says(String words) {
        sentence = words;
        sentences++;
    }

    /** Plays the calls on one new object. */
    void play(String... calls) {
        Played played = new Played();
        for (String some : calls) {
            playAll(played, some);
        }
    }

    /** Each of these calls, alone behind the setup, is refused as is due, and then all is as it was. */
    void refused(String setup, String calls) {
        List<long[]> due = statesBehind.computeIfAbsent(setup, key -> stateBehind(key, ""));
        for (String call : calls.split(" \\| ")) {
            if (!call.contains(" = ")) {
                fault(call, "has no answer that is due");
            }
            List<long[]> got = stateBehind(setup, call);
            for (int part = 0; part < due.size(); part++) {
                lookAtState(call, State.PARTS.get(part), got.get(part), due.get(part));
            }
        }
    }

    /** An answer that a test asked for itself. */
    void is(String call, long got, long due) {
        looked++;
        if (got != due) {
            fault(call, "answered " + got + ", due is " + due);
        }
    }

    /** Behind both runs of calls all is alike. */
    void alike(String calls, String others) {
        List<long[]> due = stateBehind(others, "");
        List<long[]> got = stateBehind(calls, "");
        for (int part = 0; part < due.size(); part++) {
            lookAtState("behind '" + calls + "'", State.PARTS.get(part), got.get(part), due.get(part));
        }
    }

    private void lookAtState(String call, List<String> asked, long[] got, long[] due) {
        for (int i = 0; i < due.length; i++) {
            if (got[i] != due[i]) {
                fault(call, asked.get(i) + " answers " + got[i] + " then, due is " + due[i]);
                return;
            }
        }
    }

    private List<long[]> stateBehind(String setup, String call) {
        List<long[]> state = new ArrayList<>();
        for (List<String> asked : State.PARTS) {
            Played played = new Played();
            playAll(played, setup);
            playAll(played, call);
            long[] answers = new long[asked.size()];
            for (int i = 0; i < answers.length; i++) {
                answers[i] = played.answer(asked.get(i));
            }
            state.add(answers);
        }
        return state;
    }

    private void playAll(Played played, String calls) {
        if (calls.isEmpty()) {
            return;
        }
        for (String part : calls.split(" \\| ")) {
            int star = part.indexOf(" * ");
            int times = star < 0 ? 1 : Integer.parseInt(part.substring(0, star));
            String call = star < 0 ? part : part.substring(star + 3);
            for (int k = 0; k < times; k++) {
                playOne(played, call);
            }
        }
    }

    private void playOne(Played played, String call) {
        if (call.startsWith("text '")) {
            for (char sign : call.substring(6, call.length() - 1).toCharArray()) {
                playOne(played, "feed " + (int) sign);
            }
            return;
        }
        if (call.startsWith("? ")) {
            played.answer(call.substring(2));
            return;
        }
        int equals = call.indexOf(" = ");
        long got = played.answer(equals < 0 ? call : call.substring(0, equals));
        if (equals < 0) {
            if (got < 0 && !call.startsWith("seed")) {
                fault(call, "answered " + got + ", no refusal is due");
            }
            return;
        }
        looked++;
        long due = number(call.substring(equals + 3));
        if (got != due) {
            fault(call, "answered " + got);
        }
    }

    private void fault(String call, String what) {
        wrong++;
        System.out.println(promise + ", \"" + sentence + "\": " + call + ": " + what);
    }

    void end() {
        System.out.println(name + ": " + sentences + " sentences, " + looked + " answers looked at, " + wrong + " faults");
        if (wrong > 0) {
            System.exit(1);
        }
    }

    private static long number(String word) {
        Long value = WORDS.get(word);
        return value != null ? value : Long.parseLong(word);
    }

    private static Call callOf(String text) {
        String[] words = text.strip().split(" +");
        Method method = FACE.get(words[0]);
        if (method == null || method.getParameterCount() != words.length - 1) {
            throw new IllegalArgumentException("no such call: " + text);
        }
        Class<?>[] types = method.getParameterTypes();
        Object[] arguments = new Object[types.length];
        for (int i = 0; i < types.length; i++) {
            long v = number(words[i + 1]);
            arguments[i] = types[i] == int.class ? (Object) Math.toIntExact(v) : (Object) v;
        }
        return new Call(method, arguments);
    }

    private record Call(Method method, Object[] arguments) {
    }

    /** An object and how many calls it has had: the document promises nothing behind the 512th. */
    private static final class Played {
        final SafeClears x = new SafeClears();
        int calls;

        long answer(String text) {
            Call call = CALLS.computeIfAbsent(text, Edge::callOf);
            calls++;
            if (calls > MOST_CALLS) {
                throw new IllegalArgumentException("more than " + MOST_CALLS + " calls: " + text);
            }
            try {
                return ((Number) call.method().invoke(x, call.arguments())).longValue();
            } catch (ReflectiveOperationException e) {
                throw new IllegalStateException(text + " threw " + e.getCause(), e);
            }
        }
    }
}
