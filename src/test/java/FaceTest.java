import java.lang.reflect.Constructor;
import java.lang.reflect.Field;
import java.lang.reflect.Method;
import java.lang.reflect.Modifier;
import java.util.Arrays;
import java.util.Set;
import java.util.TreeSet;

/** The public face is the document's and has nothing more. */
public final class FaceTest {
    private static final String DUE = "boolean isAbove(int,int) throws IndexOutOfBoundsException\n"
        + "boolean isAt(int,int) throws IndexOutOfBoundsException\n"
        + "int about(int) throws IllegalArgumentException\n"
        + "int character(int)\n"
        + "int fault(int) throws IllegalArgumentException\n"
        + "int feed(int,int,int,int,int) throws IllegalStateException\n"
        + "int letter(int,boolean,int) throws IndexOutOfBoundsException\n"
        + "int print(int,int,int) throws IndexOutOfBoundsException,IllegalArgumentException\n"
        + "int report(int,int,int) throws IllegalArgumentException\n"
        + "int row(int,int) throws IndexOutOfBoundsException,IllegalArgumentException\n"
        + "int run()\n"
        + "int term(int,int) throws IndexOutOfBoundsException,IllegalArgumentException\n"
        + "int trim(int) throws IllegalArgumentException\n"
        + "void clear()\n";

    public static void main(String[] args) {
        StringBuilder face = new StringBuilder();
        Set<String> lines = new TreeSet<>();
        for (Method method : TermDesk.class.getDeclaredMethods()) {
            if (!Modifier.isPrivate(method.getModifiers())) {
                lines.add(told(method));
            }
        }
        for (String line : lines) {
            face.append(line).append('\n');
        }
        Checks.same("the methods", face.toString(), DUE);
        Checks.same("the class", Modifier.toString(TermDesk.class.getModifiers()), "public final");
        Constructor<?>[] constructors = TermDesk.class.getDeclaredConstructors();
        Checks.same("the constructors", Arrays.toString(constructors), "[public TermDesk()]");
        for (Field field : TermDesk.class.getDeclaredFields()) {
            boolean none = field.getName().equals("NONE");
            Checks.same("private " + field.getName(), Modifier.isPrivate(field.getModifiers()), !none);
            Checks.same("final if static " + field.getName(),
                !Modifier.isStatic(field.getModifiers()) || Modifier.isFinal(field.getModifiers()), true);
        }
        Checks.same("NONE", TermDesk.NONE, -1);
        insideClasses();
        Checks.end();
    }

    /** LANGUAGE.md, rules 1 and 5: they are static and not public, no name of theirs is the face's, no static changes. */
    private static void insideClasses() {
        for (Class<?> inside : TermDesk.class.getDeclaredClasses()) {
            Checks.same("static " + inside.getName(), Modifier.isStatic(inside.getModifiers()), true);
            Checks.same("public " + inside.getName(), Modifier.isPublic(inside.getModifiers()), false);
            for (Method method : inside.getDeclaredMethods()) {
                Checks.same("the face's name " + method.getName(), DUE.contains(" " + method.getName() + "("), false);
            }
            for (Field field : inside.getDeclaredFields()) {
                boolean changes = Modifier.isStatic(field.getModifiers()) && !Modifier.isFinal(field.getModifiers());
                Checks.same("a static field that changes " + field.getName(), changes, false);
            }
        }
    }

    private static String told(Method method) {
        String thrown = names(method.getExceptionTypes());
        return method.getReturnType().getSimpleName() + " " + method.getName() + "("
            + names(method.getParameterTypes()) + ")" + (thrown.isEmpty() ? "" : " throws " + thrown);
    }

    private static String names(Class<?>[] classes) {
        StringBuilder names = new StringBuilder();
        for (Class<?> one : classes) {
            names.append(names.length() == 0 ? "" : ",").append(one.getSimpleName());
        }
        return names.toString();
    }
}
