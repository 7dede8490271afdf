import java.io.IOException;
import java.lang.reflect.Method;
import java.lang.reflect.Modifier;
import java.nio.file.Files;
import java.nio.file.Path;
import java.util.List;
import java.util.Set;
import java.util.TreeSet;
import java.util.regex.Matcher;
import java.util.regex.Pattern;

/**
 * Prints the test ReadmeTest, made of the uses that README.md shows: every call must answer
 * what stands behind it. Ends with exit code 1 if README.md shows what can't be tested so.
 */
public final class ReadmeUses {
    /** Its groups: what keeps the answer, the call, its method, what stands behind it. */
    private static final Pattern CALL = Pattern.compile(
            "(?:(int \\w+) = )?(\\w+\\.(\\w+)\\(.*\\));(?:\\s+// (.+))?");
    private static final Pattern NEW_OBJECT = Pattern.compile("SealedBook \\w+ = new SealedBook\\(\\);");
    private static final Pattern LOOP = Pattern.compile("for \\(.*\\) \\{|\\}");
    private static final String THROWS = "throws ";

    private final StringBuilder test = new StringBuilder();
    private final Set<String> unused = new TreeSet<>();
    private int line = 0;
    private int parts = 0;
    private boolean inside = false;
    private boolean wrong = false;

    private ReadmeUses() {
        for (Method method : SealedBook.class.getDeclaredMethods()) {
            if (Modifier.isPublic(method.getModifiers())) {
                unused.add(method.getName());
            }
        }
    }

    private void tell(String fault) {
        wrong = true;
        System.err.println("README.md, line " + line + ": " + fault);
    }

    private void emit(String code) {
        test.append(code).append('\n');
    }

    private void read(List<String> lines) {
        emit("import java.util.NoSuchElementException;");
        emit("public final class ReadmeTest {");
        emit("private static final Check check = new Check();");
        for (String text : lines) {
            line++;
            if (text.equals("```java")) {
                inside = true;
                parts++;
                emit("private static void part" + parts + "() {");
            } else if (inside && text.equals("```")) {
                inside = false;
                emit("}");
            } else if (inside) {
                use(text.strip());
            }
        }
        emit("public static void main(String[] args) {");
        for (int part = 1; part <= parts; part++) {
            emit("part" + part + "();");
        }
        emit("check.finish();");
        emit("}");
        emit("}");
        if (!unused.isEmpty()) {
            tell("the end is reached without a use of " + unused);
        }
    }

    private void use(String text) {
        Matcher call = CALL.matcher(text);
        if (NEW_OBJECT.matcher(text).matches() || LOOP.matcher(text).matches()) {
            emit(text);
        } else if (call.matches()) {
            use(call.group(1), call.group(2), call.group(3), call.group(4));
        } else {
            tell("'" + text + "' is no use that can be tested");
        }
    }

    private void use(String keeper, String call, String method, String behind) {
        unused.remove(method);
        if (behind == null) {
            requireNoAnswer(method);
            emit(call + ";");
            return;
        }
        String due = behind.split(": ", 2)[0];
        if (due.startsWith(THROWS)) {
            emit("{ Class<?> thrown = null;");
            emit("try { " + call + "; } catch (RuntimeException e) { thrown = e.getClass(); }");
            emit(same("thrown", due.substring(THROWS.length()) + ".class") + " }");
        } else if (keeper == null) {
            emit(same(call, due));
        } else {
            emit(keeper + " = " + call + ";");
            emit(same(keeper.substring("int ".length()), due));
        }
    }

    private String same(String got, String due) {
        return "check.same(\"README.md, line " + line + "\", String.valueOf(" + got + "), String.valueOf(" + due + "));";
    }

    private void requireNoAnswer(String name) {
        for (Method method : SealedBook.class.getDeclaredMethods()) {
            if (method.getName().equals(name) && method.getReturnType() != void.class) {
                tell("the answer of " + name + " is missing");
            }
        }
    }

    public static void main(String[] args) throws IOException {
        ReadmeUses uses = new ReadmeUses();
        uses.read(Files.readAllLines(Path.of("README.md")));
        System.out.print(uses.test);
        if (uses.wrong) {
            System.exit(1);
        }
    }
}
