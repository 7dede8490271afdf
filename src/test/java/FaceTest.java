import java.lang.reflect.Constructor;
import java.lang.reflect.Executable;
import java.lang.reflect.Field;
import java.lang.reflect.Method;
import java.lang.reflect.Modifier;
import java.util.Arrays;
import java.util.Set;
import java.util.TreeSet;

/** The public face: what the document lists, and nothing else that others can see. */
public final class FaceTest {
    private static final Set<String> DUE = new TreeSet<>(Arrays.asList(
            "int NONE",
            "SealedBook() throws ",
            "void put(int,int) throws IllegalArgumentException IllegalStateException ",
            "boolean delete(int) throws IllegalArgumentException IllegalStateException ",
            "int commit() throws IllegalStateException ",
            "void rollback() throws ",
            "boolean fail(int) throws ",
            "int chunks() throws ",
            "int versions() throws ",
            "int get(int,int) throws IllegalArgumentException NoSuchElementException ",
            "int range(int,int,int) throws IllegalArgumentException ",
            "int root(int) throws IllegalArgumentException ",
            "int digest(int) throws IllegalArgumentException ",
            "int prove(int,int,int) throws IllegalArgumentException ",
            "int proveGrowth(int,int) throws IllegalArgumentException ",
            "int proof(int) throws ",
            "boolean take(int,int) throws ",
            "int carry(int,int) throws ",
            "int verify(int,int,int,int) throws IllegalArgumentException ",
            "int shown() throws ",
            "boolean verifyGrowth(int,int,int,int) throws IllegalArgumentException "));

    private static String signature(String name, Executable call) {
        StringBuilder text = new StringBuilder(name).append('(');
        for (Class<?> type : call.getParameterTypes()) {
            text.append(text.charAt(text.length() - 1) == '(' ? "" : ",").append(type.getSimpleName());
        }
        text.append(") throws ");
        for (Class<?> type : call.getExceptionTypes()) {
            text.append(type.getSimpleName()).append(' ');
        }
        return text.toString();
    }

    public static void main(String[] args) {
        Check check = new Check();
        Set<String> visible = new TreeSet<>();
        Set<String> open = new TreeSet<>();
        for (Field field : SealedBook.class.getDeclaredFields()) {
            if (!Modifier.isPrivate(field.getModifiers())) {
                visible.add(field.getType().getSimpleName() + " " + field.getName());
                check.same("modifiers of " + field.getName(), field.getModifiers(),
                        Modifier.PUBLIC | Modifier.STATIC | Modifier.FINAL);
            }
        }
        for (Constructor<?> made : SealedBook.class.getDeclaredConstructors()) {
            visible.add(signature("SealedBook", made));
            check.same("modifiers of the constructor", made.getModifiers(), Modifier.PUBLIC);
        }
        for (Method method : SealedBook.class.getDeclaredMethods()) {
            if (!Modifier.isPrivate(method.getModifiers())) {
                visible.add(signature(method.getReturnType().getSimpleName() + " " + method.getName(), method));
                open.add(method.getName());
                check.same("modifiers of " + method.getName(), method.getModifiers(), Modifier.PUBLIC);
            }
        }
        for (Method method : SealedBook.class.getDeclaredMethods()) {
            check.no("private namesake " + method.getName(),
                    Modifier.isPrivate(method.getModifiers()) && open.contains(method.getName()));
        }
        if (!visible.equals(DUE)) {
            System.out.println("visible: " + visible);
        }
        check.yes("the face is the document's", visible.equals(DUE));
        check.yes("the class is final", Modifier.isFinal(SealedBook.class.getModifiers()));
        check.same("NONE", SealedBook.NONE, -1);
        check.finish();
    }
}
