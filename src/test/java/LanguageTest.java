import java.io.IOException;
import java.lang.reflect.Field;
import java.lang.reflect.Method;
import java.lang.reflect.Modifier;
import java.nio.charset.StandardCharsets;
import java.nio.file.Files;
import java.nio.file.Path;
import java.util.ArrayList;
import java.util.HashSet;
import java.util.List;
import java.util.Set;
import java.util.regex.Matcher;
import java.util.regex.Pattern;

/** Looks at SafeClears.java by those rules of ../shared/LANGUAGE.md that can be seen from its text and its classes. */
public final class LanguageTest {
    private static final String FILE = "src/main/java/SafeClears.java";
    private static final String[] FORBIDDEN = {"\\b(throw|throws|try|catch|finally|synchronized|assert|package)\\b",
        "->", "::", "\\bnew\\s+Object\\b", "\\b(equals|hashCode|toString)\\s*\\(", "\\bwhile\\s*\\(\\s*true",
        "@SuppressWarnings", "\\bvar\\b", "\\w+Exact\\b", "\\b(volatile|transient|native|strictfp)\\b", "static\\s*\\{",
        "\\b(System\\.(?!arraycopy))", "\\binstanceof\\b", "\"", "\\[\\]\\s*\\[\\]", "\\bMath\\.random\\b"};
    private static final String[] CONSTANTS = {"NONE", "BAD", "STATE", "FULL", "NO"};

    private static int wrong = 0;

    public static void main(String[] args) throws IOException {
        String source = Files.readString(Path.of(FILE), StandardCharsets.UTF_8);
        for (int i = 0; i < source.length(); i++) {
            if (source.charAt(i) < 1 || source.charAt(i) > 127) {
                fault("sign " + (int) source.charAt(i) + " at " + i);
            }
        }
        String code = withoutComments(source);
        for (String pattern : FORBIDDEN) {
            Matcher found = Pattern.compile(pattern).matcher(code);
            if (found.find()) {
                fault("found '" + found.group() + "'");
            }
        }
        imports(code);
        methods(code);
        face();
        List<Class<?>> classes = new ArrayList<>(List.of(SafeClears.class.getDeclaredClasses()));
        if (classes.size() > 11) {
            fault(classes.size() + " classes inside");
        }
        classes.add(SafeClears.class);
        for (Class<?> one : classes) {
            fields(one);
        }
        System.out.println("LanguageTest: " + classes.size() + " classes looked at, " + wrong + " faults");
        if (wrong > 0) {
            System.exit(1);
        }
    }

    private static void fault(String what) {
        wrong++;
        System.out.println(FILE + ": " + what);
    }

    /** Lines stay where they are. */
    private static String withoutComments(String source) {
        Matcher comment = Pattern.compile("(?s)/\\*.*?\\*/|//[^\n]*").matcher(source);
        return comment.replaceAll(found -> found.group().replaceAll("[^\n]", ""));
    }

    private static void imports(String code) {
        Matcher found = Pattern.compile("(?m)^import (.*);").matcher(code);
        while (found.find()) {
            if (!found.group(1).equals("java.util.Arrays")) {
                fault("imports " + found.group(1));
            }
        }
    }

    private static void methods(String code) {
        String[] lines = code.split("\n");
        Pattern head = Pattern.compile("^( {4}| {8})(?:\\w+ )*(?:\\w+(?:\\[\\])? )?(\\w+)\\((.*)\\) \\{$");
        for (int i = 0; i < lines.length; i++) {
            Matcher found = head.matcher(lines[i]);
            if (!found.find() || lines[i].matches(" *(if|for|while|switch|else|\\} else).*")) {
                continue;
            }
            int end = i;
            while (end < lines.length && !lines[end].equals(found.group(1) + "}")) {
                end++;
            }
            if (end - i > 60) {
                fault(found.group(2) + " has " + (end - i) + " lines");
            }
            if (found.group(3).split(",").length > 7) {
                fault(found.group(2) + " takes too many parameters");
            }
        }
    }

    private static void face() {
        if (!Modifier.isFinal(SafeClears.class.getModifiers())) {
            fault("the class isn't final");
        }
        Set<String> open = new HashSet<>();
        for (Method method : SafeClears.class.getDeclaredMethods()) {
            if (Modifier.isPublic(method.getModifiers())) {
                open.add(method.getName());
            }
        }
        for (Method method : SafeClears.class.getDeclaredMethods()) {
            boolean isPrivate = Modifier.isPrivate(method.getModifiers());
            if (!isPrivate && !Modifier.isPublic(method.getModifiers()) && !method.isSynthetic()) {
                fault(method.getName() + " is neither public nor private");
            }
            if (isPrivate && open.contains(method.getName())) {
                fault(method.getName() + " is both public and private");
            }
        }
        for (Class<?> inner : SafeClears.class.getDeclaredClasses()) {
            if (!Modifier.isStatic(inner.getModifiers()) || Modifier.isPublic(inner.getModifiers())) {
                fault(inner.getName() + " isn't static, or is public");
            }
            for (Method method : inner.getDeclaredMethods()) {
                if (open.contains(method.getName())) {
                    fault(inner.getName() + " has a " + method.getName() + ", too");
                }
            }
        }
        for (Field field : SafeClears.class.getDeclaredFields()) {
            boolean isTold = List.of(CONSTANTS).contains(field.getName());
            if (isTold != Modifier.isPublic(field.getModifiers()) || !isTold && !Modifier.isPrivate(field.getModifiers())) {
                fault("field " + field.getName());
            }
        }
    }

    private static void fields(Class<?> one) {
        int many = 0;
        for (Field field : one.getDeclaredFields()) {
            if (!Modifier.isStatic(field.getModifiers())) {
                many++;
            } else if (!Modifier.isFinal(field.getModifiers())) {
                fault("static field " + field.getName() + " isn't final");
            }
        }
        if (many > 20) {
            fault(one.getName() + " has " + many + " fields");
        }
    }
}
