import java.lang.management.ManagementFactory;
import java.lang.reflect.InvocationTargetException;
import java.lang.reflect.Method;
import java.lang.reflect.Modifier;

/** No call ever throws, whatever its arguments are, and none makes objects or arrays. */
public final class LimitsTest {
    private static final long[] WILD = {Integer.MIN_VALUE, -5, -1, 0, 1, 2, 5, 7, 30, 63, 64, Integer.MAX_VALUE};
    private static final long[] FEW = {Integer.MIN_VALUE, -1, 0, 1, 4, 60, Integer.MAX_VALUE};

    public static void main(String[] args) throws Exception {
        int calls = 0;
        for (int state = 0; state < 4; state++) {
            for (Method method : SafeClears.class.getDeclaredMethods()) {
                if (Modifier.isPublic(method.getModifiers())) {
                    calls += callWithAll(method, state);
                }
            }
        }
        System.out.println(calls + " calls with wild arguments, none threw");
        makesNothing();
    }

    /** 0 new, 1 set up, 2 started and busy, 3 the same with an emergency, a full record and all tapes held. */
    private static SafeClears inState(int state) {
        SafeClears x = new SafeClears();
        if (state == 0) {
            return x;
        }
        Due.feed(x, "ca1b1c1d1e1f1g1h1*3/20~4@20;wb1c1*4/9~1@5;tc1d1*2/8@9;ba1c1~5@30");
        x.read();
        Due.feed(x, "ca3*1/1@60;wa3*1/1@60;ta4;bh8");
        x.read();
        x.phase(5 + 16, 10);
        x.phase(2 + 32 + 64, 20);
        x.phase(8 + 128, 15);
        x.node(0, 30, 99);
        x.node(29, 1, 99);
        for (int k = 0; k < 5; k++) {
            x.green(k, 5 * k, 5 * k + 9);
            x.note(30 + k, k);
            x.plan(k % 4, k);
        }
        if (state == 1) {
            return x;
        }
        x.start();
        x.cycle(40, 5, 12);
        x.pass(50);
        x.image();
        if (state == 3) {
            x.pass(99);
            x.pass(99);
            x.emergency(3);
            for (int t = 0; t < 6; t++) {
                x.tape(t, t % 5, 60 - 10 * t);
            }
        }
        return x;
    }

    private static int callWithAll(Method method, int state) throws Exception {
        Class<?>[] types = method.getParameterTypes();
        long[] values = types.length > 3 ? FEW : WILD;
        int many = 1;
        for (int i = 0; i < types.length; i++) {
            many *= values.length;
        }
        SafeClears x = inState(state);
        for (int call = 0; call < many; call++) {
            if (call % 400 == 399) {
                x = inState(state);
            }
            Object[] arguments = new Object[types.length];
            int rest = call;
            for (int i = 0; i < types.length; i++) {
                long v = values[rest % values.length];
                arguments[i] = types[i] == int.class ? (Object) (int) v : (Object) v;
                rest /= values.length;
            }
            try {
                method.invoke(x, arguments);
            } catch (InvocationTargetException e) {
                System.out.println(method + " " + java.util.Arrays.toString(arguments) + " threw " + e.getCause());
                System.exit(1);
            }
        }
        return many;
    }

    private static void dearCalls(SafeClears x, int k) {
        x.feed('c');
        x.feed('a');
        x.feed('1');
        x.read();
        x.fits(0);
        x.best(60, 0);
        x.chance(k, 9, 4, 500, 0);
        x.day(k, 9);
        x.turns(1, 9);
        x.would(9, 4);
        x.ends(0);
        x.tune();
        x.nodeBest(1, 0);
        x.crowded(60, 0);
        x.could(5, 60, 0);
        x.proved();
        x.table(3);
        x.pass(3);
        x.image();
        x.undo();
        x.judge(0, 0);
        x.tape(k % 6, k % 5, k % 61);
        x.item(k % 6, 3, k);
        x.shift(0, 0, 1, 1, 2);
        x.green(-1, 0, 0);
        x.green(0, 1, 5);
        x.note(-1, 0);
        x.plan(-1, 0);
        x.told(9);
        x.of(0, 12);
    }

    private static long bytesMade(com.sun.management.ThreadMXBean threads) {
        return threads.getThreadAllocatedBytes(Thread.currentThread().getId());
    }

    private static void makesNothing() {
        com.sun.management.ThreadMXBean threads =
            (com.sun.management.ThreadMXBean) ManagementFactory.getThreadMXBean();
        SafeClears[] objects = new SafeClears[40];
        for (int k = 0; k < objects.length; k++) {
            objects[k] = inState(1 + k % 3);
        }
        dearCalls(objects[0], 0);
        long none = bytesMade(threads);
        long[] row = new long[1000];
        row[0] = bytesMade(threads);
        if (row[0] - none < 8000) {
            System.out.println("this machine doesn't tell how many bytes are made");
            System.exit(1);
        }
        long before = bytesMade(threads);
        for (int k = 1; k < objects.length; k++) {
            for (int time = 0; time < 12; time++) {
                dearCalls(objects[k], time);
            }
        }
        long made = bytesMade(threads) - before;
        System.out.println(made + " bytes made by " + 39 * 12 * 30 + " calls");
        if (made > 4096) {
            System.out.println("calls make objects or arrays");
            System.exit(1);
        }
    }
}
