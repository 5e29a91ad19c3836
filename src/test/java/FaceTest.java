import java.lang.reflect.Constructor;
import java.lang.reflect.Executable;
import java.lang.reflect.Field;
import java.lang.reflect.Method;
import java.lang.reflect.Modifier;
import java.util.Arrays;
import java.util.TreeSet;
import java.util.stream.Collectors;

/** The class has the document's public face and nothing else that can be seen (LANGUAGE.md, rule 1). */
public final class FaceTest {
    private static final String STATE = "IllegalStateException";
    private static final String INDEX = "IndexOutOfBoundsException";
    private static final String ARGUMENT = "IllegalArgumentException";
    private static final String SUPPORT = "UnsupportedOperationException";

    public static void main(String[] args) {
        Check check = new Check();
        check.same("the class", Modifier.toString(FountainDesk.class.getModifiers()), "public final");
        check.same("the methods", methods().toString(), dueMethods().toString());
        check.same("the constructors", constructors().toString(), "[public FountainDesk()]");
        check.same("the fields", fields().toString(), "[public static final int NONE]");
        check.same("NONE", FountainDesk.NONE, -1);
        check.same("classes inside", openClasses().toString(), "[]");
        check.same("private methods with a public name", hiddenTwins().toString(), "[]");
        check.finish();
    }

    private static TreeSet<String> dueMethods() {
        return new TreeSet<>(Arrays.asList(
            "public int feed(int, int, int, int, int) " + SUPPORT,
            "public void end(int) " + ARGUMENT,
            "public int turn(int) " + ARGUMENT,
            "public void block(int, int) " + ARGUMENT,
            "public int byteAt(int, int) " + STATE + " " + INDEX,
            "public int row(int, int, boolean) " + ARGUMENT + " " + INDEX,
            "public void open(int, int) " + ARGUMENT,
            "public boolean take(int) " + STATE + " " + INDEX + " " + SUPPORT,
            "public int takeAll(int, int, int) " + STATE + " " + INDEX + " " + ARGUMENT,
            "public boolean give(int) " + STATE + " " + INDEX + " " + ARGUMENT + " " + SUPPORT,
            "public int rank() " + STATE,
            "public boolean follows(int) " + STATE + " " + INDEX,
            "public int known(int, int) " + STATE + " " + INDEX,
            "public int product(int, int)",
            "public int count(int) " + ARGUMENT));
    }

    private static TreeSet<String> methods() {
        TreeSet<String> all = new TreeSet<>();
        for (Method one : FountainDesk.class.getDeclaredMethods()) {
            if (!Modifier.isPrivate(one.getModifiers())) {
                String head = Modifier.toString(one.getModifiers()) + " " + one.getReturnType().getSimpleName();
                all.add((head + " " + one.getName() + taken(one) + " " + thrown(one)).trim());
            }
        }
        return all;
    }

    private static TreeSet<String> constructors() {
        TreeSet<String> all = new TreeSet<>();
        for (Constructor<?> one : FountainDesk.class.getDeclaredConstructors()) {
            all.add((Modifier.toString(one.getModifiers()) + " FountainDesk" + taken(one) + " " + thrown(one)).trim());
        }
        return all;
    }

    private static TreeSet<String> fields() {
        TreeSet<String> all = new TreeSet<>();
        for (Field one : FountainDesk.class.getDeclaredFields()) {
            if (!Modifier.isPrivate(one.getModifiers())) {
                String head = Modifier.toString(one.getModifiers()) + " " + one.getType().getSimpleName();
                all.add(head + " " + one.getName());
            }
        }
        return all;
    }

    private static TreeSet<String> openClasses() {
        TreeSet<String> all = new TreeSet<>();
        for (Class<?> one : FountainDesk.class.getDeclaredClasses()) {
            int seen = one.getModifiers();
            if (Modifier.isPublic(seen) || Modifier.isProtected(seen) || !Modifier.isStatic(seen)) {
                all.add(one.getSimpleName());
            }
        }
        return all;
    }

    private static TreeSet<String> hiddenTwins() {
        TreeSet<String> open = new TreeSet<>();
        TreeSet<String> hidden = new TreeSet<>();
        for (Method one : FountainDesk.class.getDeclaredMethods()) {
            (Modifier.isPublic(one.getModifiers()) ? open : hidden).add(one.getName());
        }
        for (Class<?> inside : FountainDesk.class.getDeclaredClasses()) {
            for (Method one : inside.getDeclaredMethods()) {
                hidden.add(one.getName());
            }
        }
        hidden.retainAll(open);
        return hidden;
    }

    private static String taken(Executable one) {
        return Arrays.stream(one.getParameterTypes()).map(Class::getSimpleName)
            .collect(Collectors.joining(", ", "(", ")"));
    }

    private static String thrown(Executable one) {
        return Arrays.stream(one.getExceptionTypes()).map(Class::getSimpleName).collect(Collectors.joining(" "));
    }
}
