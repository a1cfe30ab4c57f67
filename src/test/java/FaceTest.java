import java.io.IOException;
import java.lang.reflect.Constructor;
import java.lang.reflect.Field;
import java.lang.reflect.Method;
import java.lang.reflect.Modifier;
import java.nio.file.Files;
import java.nio.file.Path;
import java.util.ArrayList;
import java.util.List;
import java.util.Map;
import java.util.Set;
import java.util.TreeMap;
import java.util.TreeSet;
import java.util.regex.Matcher;
import java.util.regex.Pattern;

/** The public face is the one that ../shared/DOC.md writes out: each constant, each call, in its order and under its head. */
public final class FaceTest {
    private static final Path DOC = Path.of("../shared/DOC.md");
    private static final Path SOURCE = Path.of("src/main/java/SafeClears.java");
    private static final Map<String, Long> CONSTANTS = Map.of("NONE", -1L, "BAD", -2L, "STATE", -3L, "FULL", -4L,
        "NO", Long.MIN_VALUE);

    private static int wrong = 0;

    public static void main(String[] args) throws Exception {
        String doc = Files.readString(DOC);
        List<String> face = faceOf(doc);
        constants();
        signatures(face);
        promised(doc, face);
        order(face);
        heads(doc, face);
        System.out.println("FaceTest: " + face.size() + " calls, " + wrong + " faults");
        if (wrong > 0 || face.size() != 53) {
            System.exit(1);
        }
    }

    private static void fault(String what) {
        wrong++;
        System.out.println("the face: " + what);
    }

    /** What the document's block of Java declares, without the constants. */
    private static List<String> faceOf(String doc) {
        int first = doc.indexOf("```java");
        List<String> face = new ArrayList<>();
        for (String line : doc.substring(first, doc.indexOf("```", first + 3)).split("\n")) {
            if (line.startsWith("    public ") && !line.contains(" static ")) {
                face.add(line.strip().replace(";", ""));
            }
        }
        return face;
    }

    private static String nameOf(String call) {
        String ahead = call.substring(0, call.indexOf('('));
        return ahead.substring(ahead.lastIndexOf(' ') + 1);
    }

    private static void constants() throws IllegalAccessException {
        Set<String> names = new TreeSet<>();
        for (Field field : SafeClears.class.getFields()) {
            names.add(field.getName());
            Class<?> type = field.getName().equals("NO") ? long.class : int.class;
            if (field.getType() != type || !Modifier.isStatic(field.getModifiers()) || !Modifier.isFinal(field.getModifiers())) {
                fault("constant " + field.getName());
            } else if (!CONSTANTS.containsKey(field.getName()) || field.getLong(null) != CONSTANTS.get(field.getName())) {
                fault(field.getName() + " is " + field.getLong(null));
            }
        }
        if (!names.equals(new TreeSet<>(CONSTANTS.keySet()))) {
            fault("the constants are " + names);
        }
    }

    private static String types(Class<?>[] types) {
        StringBuilder text = new StringBuilder("(");
        for (Class<?> type : types) {
            text.append(text.length() == 1 ? "" : ", ").append(type.getName());
        }
        return text.append(")").toString();
    }

    /** Names and types are as the document's; none is missing, none is there besides. */
    private static void signatures(List<String> face) {
        Set<String> due = new TreeSet<>();
        for (String call : face) {
            due.add(call.replace("public ", "").replaceAll("\\b(int|long) \\w+(?=[,)])", "$1"));
        }
        Set<String> there = new TreeSet<>();
        for (Constructor<?> made : SafeClears.class.getDeclaredConstructors()) {
            there.add(made.getName() + types(made.getParameterTypes()));
        }
        for (Method method : SafeClears.class.getDeclaredMethods()) {
            if (!Modifier.isPrivate(method.getModifiers())) {
                there.add(method.getReturnType() + " " + method.getName() + types(method.getParameterTypes()));
            }
        }
        if (!due.equals(there)) {
            fault("due are " + due + ", there are " + there);
        }
    }

    /** Each call of the face has its promise, by the same words. */
    private static void promised(String doc, List<String> face) {
        Matcher found = Pattern.compile("## Promise (\\d+): [^\n]+\n\n`([^`]+)`: ").matcher(doc);
        int number = 0;
        while (found.find()) {
            if (Integer.parseInt(found.group(1)) != number + 1 || !face.get(number).equals("public " + found.group(2))) {
                fault("promise " + found.group(1) + " is of " + found.group(2));
            }
            number++;
        }
        if (number != face.size()) {
            fault(number + " promises");
        }
    }

    private static void order(List<String> face) throws IOException {
        List<String> open = new ArrayList<>();
        for (String line : Files.readAllLines(SOURCE)) {
            if (line.matches("    public [^=]*\\(.*\\) \\{")) {
                open.add(line.strip().replace(" {", ""));
            }
        }
        if (!open.equals(face)) {
            fault("in the source it is " + open);
        }
    }

    /** Which head stands ahead of each call in the source. */
    private static Map<String, String> headsInSource() throws IOException {
        Map<String, String> heads = new TreeMap<>();
        String head = "";
        for (String line : Files.readAllLines(SOURCE)) {
            if (line.strip().startsWith("// ---- ")) {
                head = line.strip().substring(3);
            } else if (line.matches("    public [^=]*\\(.*\\) \\{")) {
                heads.put(nameOf(line), head);
            }
        }
        return heads;
    }

    private static void heads(String doc, List<String> face) throws IOException {
        Map<String, String> heads = headsInSource();
        Matcher found = Pattern.compile("Ahead of the calls (.*) the interface says: (---- .*)\\.\n").matcher(doc);
        int calls = 0;
        while (found.find()) {
            for (String name : found.group(1).replace("`", "").split(", ")) {
                calls++;
                if (!found.group(2).equals(heads.get(name))) {
                    fault(name + " stands under '" + heads.get(name) + "', due is '" + found.group(2) + "'");
                }
            }
        }
        if (calls != face.size() - 1) {
            fault(calls + " calls have a head");
        }
    }
}
