import java.io.IOException;
import java.lang.reflect.Constructor;
import java.lang.reflect.Field;
import java.lang.reflect.Method;
import java.lang.reflect.Modifier;
import java.nio.file.Files;
import java.nio.file.Path;
import java.util.ArrayList;
import java.util.List;
import java.util.Set;
import java.util.regex.Matcher;
import java.util.regex.Pattern;

/**
 * What of ../shared/LANGUAGE.md can be seen from the program's text and its classes, by its rules.
 * Allows what the program uses, which is less than the rules allow.
 */
public final class LanguageTest {
    private static final Check check = new Check();

    private static final Set<String> IMPORTS = Set.of("java.util.Arrays", "java.util.NoSuchElementException");
    private static final Set<String> LIBRARY = Set.of("Math.min", "Math.max", "System.arraycopy",
            "Arrays.copyOf", "Arrays.copyOfRange", "Arrays.fill");
    private static final Set<String> EXCEPTIONS = Set.of("IllegalStateException", "IllegalArgumentException",
            "NoSuchElementException");
    private static final Set<Class<?>> CONSTANTS = Set.of(int.class, long.class, boolean.class, char.class, String.class);

    private static final int MOST_PARAMETERS = 7;
    private static final int MOST_LINES = 60;
    private static final int MOST_CLASSES = 12;
    private static final int MOST_FIELDS = 20;

    /** The words of an exception and the comments are no code. */
    private static String code() throws IOException {
        String text = Files.readString(Path.of("src/main/java/SealedBook.java"));
        return text.replaceAll("(?s)/\\*.*?\\*/", "").replaceAll("//.*", "").replaceAll("\"[^\"\n]*\"", "\"\"");
    }

    private static List<Class<?>> classes() {
        List<Class<?>> all = new ArrayList<>(List.of(SealedBook.class));
        all.addAll(List.of(SealedBook.class.getDeclaredClasses()));
        return all;
    }

    private static void all(String code, String pattern, Set<String> allowed) {
        Matcher found = Pattern.compile(pattern).matcher(code);
        while (found.find()) {
            check.yes("'" + found.group(1) + "' is allowed", allowed.contains(found.group(1)));
        }
    }

    private static void none(String code, String pattern) {
        Matcher found = Pattern.compile(pattern).matcher(code);
        check.no(pattern + " is there", found.find());
    }

    private static void text(String code) {
        check.sentence("LANGUAGE.md", "one file, without a package line");
        none(code, "\\bpackage\\b");
        check.sentence("Rule 2", "no lambda, no method reference");
        none(code, "->|::");
        check.sentence("Rule 4", "The library: only what stands here.");
        all(code, "\\bimport (?:static )?([\\w.*]+);", IMPORTS);
        all(code, "\\b((?:Math|System|Arrays|Integer|Long|Character|Thread|Runtime|Objects)\\.\\w+)", LIBRARY);
        none(code, "\\bjava\\.(?!util\\.(?:Arrays|NoSuchElementException);)");
        check.sentence("Rule 5", "no static initialiser block");
        none(code, "\\bstatic\\s*\\{");
        check.sentence("Rule 6", "throw new E() or throw new E(\"a written text\")");
        all(code, "\\bthrow new (\\w+)\\(\"\"\\);", EXCEPTIONS);
        none(code, "\\bthrow (?!new \\w+\\(\"\"\\);)");
        none(code, "\\b(?:try|catch|finally|synchronized|assert)\\b");
        none(code, "\\b(?:equals|hashCode|toString)\\(");
    }

    /** A method of the class itself stands four spaces in, one of a class inside it eight. */
    private static void methodLengths(String code) {
        check.sentence("Rule 11", "Methods stay short (some sixty lines)");
        Matcher method = Pattern.compile("(?m)^( {4}| {8})(?!.*\\bclass\\b)\\S[^\n]*\\) ?(?:throws [^{]*)?\\{\n(?s:.*?)\n\\1\\}$")
                .matcher(code);
        while (method.find()) {
            String first = method.group().lines().findFirst().orElse("").strip();
            check.yes(first, method.group().lines().count() <= MOST_LINES);
        }
    }

    private static void sizes() {
        check.sentence("Rule 11", "the file has at most some twelve classes, and a class some twenty fields");
        check.yes("classes", classes().size() <= MOST_CLASSES);
        for (Class<?> type : classes()) {
            int fields = 0;
            for (Field field : type.getDeclaredFields()) {
                fields += Modifier.isStatic(field.getModifiers()) ? 0 : 1;
            }
            check.yes("fields of " + type.getName(), fields <= MOST_FIELDS);
        }
        check.sentence("Rule 11", "A method takes at most seven parameters.");
        for (Class<?> type : classes()) {
            for (Method method : type.getDeclaredMethods()) {
                check.yes(method.toString(), method.getParameterCount() <= MOST_PARAMETERS);
            }
            for (Constructor<?> made : type.getDeclaredConstructors()) {
                check.yes(made.toString(), made.getParameterCount() <= MOST_PARAMETERS);
            }
        }
    }

    private static void state() {
        check.sentence("Rule 2", "Classes inside: static nested classes");
        for (Class<?> inside : SealedBook.class.getDeclaredClasses()) {
            int modifiers = inside.getModifiers();
            check.yes(inside.getName() + " is static", Modifier.isStatic(modifiers));
            check.no(inside.getName() + " can be seen", Modifier.isPublic(modifiers) || Modifier.isProtected(modifiers));
        }
        check.sentence("Rule 5", "Static fields are final");
        for (Class<?> type : classes()) {
            for (Field field : type.getDeclaredFields()) {
                if (Modifier.isStatic(field.getModifiers())) {
                    check.yes(field.toString(), Modifier.isFinal(field.getModifiers()));
                    check.yes(field + " is a constant", CONSTANTS.contains(field.getType()));
                }
            }
        }
        check.sentence("Rule 3", "arrays of these and of your own classes, of one dimension");
        for (Class<?> type : classes()) {
            for (Field field : type.getDeclaredFields()) {
                Class<?> kind = field.getType().isArray() ? field.getType().getComponentType() : field.getType();
                check.yes(field.toString(), kind.isPrimitive() || classes().contains(kind) || kind == String.class);
            }
        }
    }

    public static void main(String[] args) throws IOException {
        String code = code();
        text(code);
        methodLengths(code);
        sizes();
        state();
        check.finish();
    }
}
