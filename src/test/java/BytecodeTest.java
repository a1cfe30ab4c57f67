import java.io.DataInputStream;
import java.io.IOException;
import java.io.InputStream;
import java.nio.ByteBuffer;
import java.util.ArrayList;
import java.util.List;
import java.util.Map;
import java.util.Set;
import java.util.TreeMap;
import java.util.TreeSet;

/**
 * Looks at the compiled classes by those rules of ../shared/LANGUAGE.md that the text alone doesn't show: which calls
 * of the library there are, how deep calls go, that none is a recursion, where objects are made, that nothing is
 * thrown, caught or cast.
 */
public final class BytecodeTest {
    private static final int DEEPEST = 8;
    private static final Set<String> LIBRARY = Set.of("java/lang/Object.<init>", "java/lang/Math.max", "java/lang/Math.min",
        "java/lang/Math.floorMod", "java/lang/Integer.bitCount", "java/lang/Long.bitCount", "java/lang/System.arraycopy",
        "java/util/Arrays.fill");
    private static final int TABLE_SWITCH = 170, LOOKUP_SWITCH = 171, PUT_STATIC = 179, FIRST_INVOKE = 182, DYNAMIC = 186, NEW = 187,
        NEW_ARRAY = 189, THROW = 191, CAST = 192, LAST_MONITOR = 195, WIDE = 196, NEW_ROWS = 197;

    private static final Map<String, Set<String>> CALLS = new TreeMap<>();
    private static final Set<String> FACE = new TreeSet<>();
    private static int wrong = 0;

    /** The texts, and the numbers of other entries, that a class file's pool of constants holds. */
    private final Object[] pool;
    private final String owner;
    private String method = "";

    private BytecodeTest(Object[] pool, String owner) {
        this.pool = pool;
        this.owner = owner;
    }

    public static void main(String[] args) throws IOException {
        List<Class<?>> classes = new ArrayList<>(List.of(SafeClears.class.getDeclaredClasses()));
        classes.add(SafeClears.class);
        for (Class<?> one : classes) {
            try (InputStream in = BytecodeTest.class.getResourceAsStream("/" + one.getName() + ".class")) {
                readClass(new DataInputStream(in), one.getName());
            }
        }
        int deepest = 0;
        for (String open : FACE) {
            deepest = Math.max(deepest, depth(open, new ArrayList<>()));
        }
        System.out.println("BytecodeTest: " + CALLS.size() + " methods of " + classes.size() + " classes, calls go " + deepest
            + " deep, " + wrong + " faults");
        if (wrong > 0 || FACE.size() != 53) {
            System.exit(1);
        }
    }

    private static void fault(String where, String what) {
        wrong++;
        System.out.println(where + ": " + what);
    }

    /** How many calls stand open at once, this one too, and the library's. */
    private static int depth(String name, List<String> open) {
        if (open.contains(name)) {
            fault(name, "calls itself: " + open);
            return 0;
        }
        open.add(name);
        int below = 0;
        for (String called : CALLS.getOrDefault(name, Set.of())) {
            below = Math.max(below, depth(called, open));
        }
        open.remove(name);
        if (below + 1 > DEEPEST && open.isEmpty()) {
            fault(name, "goes " + (below + 1) + " deep");
        }
        return below + 1;
    }

    private static void readClass(DataInputStream in, String owner) throws IOException {
        in.skipNBytes(8);
        BytecodeTest test = new BytecodeTest(readPool(in), owner);
        in.skipNBytes(6);
        in.skipNBytes(2L * in.readUnsignedShort());
        test.readMembers(in, false);
        test.readMembers(in, true);
    }

    private static Object[] readPool(DataInputStream in) throws IOException {
        Object[] pool = new Object[in.readUnsignedShort()];
        for (int i = 1; i < pool.length; i++) {
            int tag = in.readUnsignedByte();
            switch (tag) {
                case 1:
                    pool[i] = in.readUTF();
                    break;
                case 5:
                case 6:
                    in.skipNBytes(8);
                    // these take two places
                    i++;
                    break;
                case 7:
                case 8:
                case 16:
                case 19:
                case 20:
                    pool[i] = new int[] {in.readUnsignedShort()};
                    break;
                case 15:
                    in.skipNBytes(3);
                    break;
                case 3:
                case 4:
                    in.skipNBytes(4);
                    break;
                default:
                    pool[i] = new int[] {in.readUnsignedShort(), in.readUnsignedShort()};
                    break;
            }
        }
        return pool;
    }

    private String text(int i) {
        return (String) pool[i];
    }

    private String className(int i) {
        return text(((int[]) pool[i])[0]);
    }

    /** Class, name and types of a method that is called. */
    private String called(int i) {
        int[] reference = (int[]) pool[i];
        int[] nameAndTypes = (int[]) pool[reference[1]];
        return className(reference[0]) + "." + text(nameAndTypes[0]) + text(nameAndTypes[1]);
    }

    private void readMembers(DataInputStream in, boolean areMethods) throws IOException {
        for (int k = in.readUnsignedShort(); k > 0; k--) {
            int access = in.readUnsignedShort();
            method = owner + "." + text(in.readUnsignedShort()) + text(in.readUnsignedShort());
            if (areMethods) {
                CALLS.put(method, new TreeSet<>());
                if (owner.equals("SafeClears") && (access & 1) != 0) {
                    FACE.add(method);
                }
            }
            for (int a = in.readUnsignedShort(); a > 0; a--) {
                String attribute = text(in.readUnsignedShort());
                byte[] bytes = new byte[in.readInt()];
                in.readFully(bytes);
                if (attribute.equals("Code")) {
                    readCode(ByteBuffer.wrap(bytes));
                }
            }
        }
    }

    private void readCode(ByteBuffer bytes) {
        int length = bytes.getInt(4);
        if (bytes.getShort(8 + length) != 0) {
            fault(method, "catches");
        }
        for (int place = 0; place < length; place += lengthOf(bytes, place)) {
            look(bytes.get(8 + place) & 255, bytes.getShort(9 + place) & 0xFFFF);
        }
    }

    /** The code's bytes begin behind the first 8. */
    private static int lengthOf(ByteBuffer bytes, int place) {
        int first = 8 + place;
        int code = bytes.get(first) & 255;
        int numbers = first + 4 - place % 4;
        switch (code) {
            case TABLE_SWITCH:
                return numbers - first + 4 * (4 + bytes.getInt(numbers + 8) - bytes.getInt(numbers + 4));
            case LOOKUP_SWITCH:
                return numbers - first + 8 * (1 + bytes.getInt(numbers + 4));
            case WIDE:
                return (bytes.get(first + 1) & 255) == 132 ? 6 : 4;
            case NEW_ROWS:
                return 4;
            case DYNAMIC - 1:
            case DYNAMIC:
            case 200:
            case 201:
                return 5;
            default:
                return isOneOf(code, 17, 17, 19, 20, 132, 132, 153, 168, 178, 184, 187, 187, 189, 189, 192, 193, 198, 199) ? 3
                    : isOneOf(code, 16, 16, 18, 18, 21, 25, 54, 58, 169, 169, 188, 188) ? 2 : 1;
        }
    }

    private static boolean isOneOf(int code, int... ranges) {
        for (int i = 0; i < ranges.length; i += 2) {
            if (code >= ranges[i] && code <= ranges[i + 1]) {
                return true;
            }
        }
        return false;
    }

    private void look(int code, int number) {
        boolean makes = method.contains(".<init>") || method.contains(".<clinit>");
        if (code == PUT_STATIC && !method.contains(".<clinit>")) {
            fault(method, "writes a static field");
        }
        if ((code >= NEW && code <= NEW_ARRAY || code == NEW_ROWS) && !makes) {
            fault(method, "makes an object");
        }
        if (code >= THROW && code <= LAST_MONITOR) {
            fault(method, code == THROW ? "throws" : code <= CAST + 1 ? "casts" : "locks");
        }
        if (code == DYNAMIC) {
            fault(method, "has a lambda, or joins texts");
        } else if (code >= FIRST_INVOKE && code < DYNAMIC) {
            String called = called(number);
            CALLS.get(method).add(called);
            if (!called.startsWith("SafeClears") && !LIBRARY.contains(called.substring(0, called.indexOf('(')))) {
                fault(method, "calls " + called);
            }
        }
    }
}
