import java.io.IOException;
import java.lang.reflect.Field;
import java.lang.reflect.Method;
import java.lang.reflect.Modifier;
import java.nio.file.Files;
import java.nio.file.Path;
import java.util.List;
import java.util.Set;
import java.util.regex.Matcher;
import java.util.regex.Pattern;

/** The rules of LANGUAGE.md that can be read off the source, or off the compiled class; FaceTest has rule 1. */
public final class LanguageTest {
    private static final Check check = new Check("LanguageTest");
    private static final Path SOURCE = Path.of("src/main/java/Subakhall.java");
    private static final Set<String> EXCEPTIONS = Set.of("IllegalStateException",
            "IllegalArgumentException", "IndexOutOfBoundsException", "ArithmeticException",
            "UnsupportedOperationException", "NoSuchElementException", "RuntimeException");
    private static final Set<String> OF_MATH = Set.of("max", "min", "abs", "floorDiv", "floorMod");
    private static final Set<String> OF_LISTS = Set.of("add", "get", "set", "remove", "size", "isEmpty", "clear");

    public static void main(String[] args) throws IOException {
        String text = Files.readString(SOURCE);
        String code = text.replaceAll("(?s)/\\*.*?\\*/", "").replaceAll("//[^\n]*", "");
        signs(text);
        library(code);
        banned(code);
        thrown(code);
        lists(code);
        methodLengths(code.split("\n"));
        classes();
        check.end();
    }

    private static void signs(String text) {
        for (int i = 0; i < text.length(); i++) {
            check.due("rule 4: a sign at " + i, text.charAt(i) >= 1 && text.charAt(i) <= 127, true);
        }
    }

    private static void library(String code) {
        check.due("no package line", found("\\bpackage\\b", code), false);
        Matcher imports = Pattern.compile("import\\s+([\\w.*]+)").matcher(code);
        while (imports.find()) {
            check.due("rule 4: " + imports.group(), imports.group(1).equals("java.util.ArrayList"), true);
        }
        Matcher math = Pattern.compile("\\b(Math|Integer|Long)\\.(\\w+)").matcher(code);
        while (math.find()) {
            check.due("rule 4: " + math.group(), OF_MATH.contains(math.group(2)), true);
        }
        check.due("rules 4 and 13: another class of the library",
                found("\\b(System|Arrays|Collections|Objects|Random|Thread|java\\.(?!util\\.ArrayList))\\b", code), false);
    }

    private static void banned(String code) {
        for (String word : List.of("try", "catch", "finally", "synchronized", "assert", "volatile", "protected",
                "Object", "equals", "hashCode", "toString", "native")) {
            check.due("rule 6: " + word, found("\\b" + word + "\\b", code), false);
        }
        for (String sign : List.of("->", "::", "static \\{", "\"\\s*\\+", "\\+\\s*\"")) {
            check.due("rules 2, 5 and 10: " + sign, found(sign, code), false);
        }
        check.due("rule 9: an end that is not seen", found("\\bwhile\\b|for \\(;", code), false);
    }

    private static void thrown(String code) {
        Matcher thrown = Pattern.compile("\\bthrow\\b\\s*(.*)").matcher(code);
        while (thrown.find()) {
            Matcher told = Pattern.compile("new (\\w+)\\(\"[^\"]*\"\\);").matcher(thrown.group(1));
            check.due("rule 6: " + thrown.group(), told.matches() && EXCEPTIONS.contains(told.group(1)), true);
        }
    }

    private static void lists(String code) {
        Matcher used = Pattern.compile("\\b(societies|fields)\\.(\\w+)").matcher(code);
        while (used.find()) {
            check.due("rule 4: " + used.group(), OF_LISTS.contains(used.group(2)), true);
        }
    }

    private static boolean found(String what, String code) {
        return Pattern.compile(what).matcher(code).find();
    }

    /** A method begins and ends on lines that are indented alike. */
    private static void methodLengths(String[] lines) {
        for (int i = 0; i < lines.length; i++) {
            int indent = lines[i].length() - lines[i].stripLeading().length();
            boolean isMethod = lines[i].contains("(") && !lines[i].contains(";") && (indent == 4 || indent == 8
                    && !lines[i].strip().matches("(if|for|switch|while|\\}|throws|\\|\\||&&).*"));
            if (isMethod) {
                int end = i;
                while (end < lines.length - 1 && !lines[end].equals(" ".repeat(indent) + "}")) {
                    end++;
                }
                check.due("rule 11: " + lines[i].strip() + " is short", end - i <= 60, true);
            }
        }
    }

    private static void classes() {
        Class<?>[] inside = Subakhall.class.getDeclaredClasses();
        check.due("rule 11: classes", inside.length + 1 <= 12, true);
        members(Subakhall.class);
        for (Class<?> c : inside) {
            check.due("rule 1: static, " + c, Modifier.isStatic(c.getModifiers()), true);
            check.due("rule 1: private or package-visible, " + c,
                    Modifier.isPublic(c.getModifiers()) || Modifier.isProtected(c.getModifiers()), false);
            members(c);
        }
    }

    private static void members(Class<?> c) {
        int fields = 0;
        for (Field f : c.getDeclaredFields()) {
            if (Modifier.isStatic(f.getModifiers())) {
                check.due("rule 5: final, " + f, Modifier.isFinal(f.getModifiers()), true);
                check.due("rule 5: a constant, " + f, Set.of(int.class, long.class, boolean.class, char.class,
                        String.class, int[].class, long[].class, byte[].class, char[].class).contains(f.getType()), true);
            } else {
                fields++;
            }
        }
        check.due("rule 11: fields of " + c, fields <= 20, true);
        for (Method m : c.getDeclaredMethods()) {
            check.due("rule 11: parameters of " + m, m.getParameterCount() <= 7, true);
        }
    }
}
