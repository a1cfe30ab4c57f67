import java.io.IOException;
import java.lang.reflect.Method;
import java.lang.reflect.Modifier;
import java.nio.file.Files;
import java.nio.file.Path;
import java.util.ArrayList;
import java.util.List;
import java.util.regex.Matcher;
import java.util.regex.Pattern;

/** The examples of README.md answer what it says, and it names each call of the face. */
public final class ReadmeTest {
    private static final Edge edge = new Edge("ReadmeTest");
    private static final Pattern TEXT = Pattern.compile("^for \\(char sign : \"(.*)\"\\.toCharArray\\(\\)\\) \\{");
    private static final Pattern CALL = Pattern.compile("^x\\.(\\w+)\\((.*)\\); +// (-?\\d+)\\b.*");

    public static void main(String[] args) throws IOException {
        String readme = Files.readString(Path.of("README.md"));
        edge.promise("README.md");
        edge.says("examples");
        List<String> calls = new ArrayList<>();
        for (String line : readme.split("\n")) {
            Matcher found = CALL.matcher(line);
            Matcher text = TEXT.matcher(line);
            if (line.startsWith("SafeClears x = new")) {
                edge.play(String.join(" | ", calls));
                calls.clear();
            } else if (text.matches()) {
                calls.add("text '" + text.group(1) + "'");
            } else if (found.matches()) {
                calls.add((found.group(1) + " " + found.group(2).replace(",", "")).strip() + " = " + found.group(3));
            } else if (line.startsWith("x.")) {
                edge.is(line + " (its answer isn't told)", 1, 0);
            }
        }
        edge.play(String.join(" | ", calls));
        for (Method method : SafeClears.class.getDeclaredMethods()) {
            boolean isNamed = readme.contains("`" + method.getName() + "(");
            if (Modifier.isPublic(method.getModifiers())) {
                edge.is("README.md names " + method.getName(), isNamed ? 1 : 0, 1);
            }
        }
        edge.end();
    }
}
