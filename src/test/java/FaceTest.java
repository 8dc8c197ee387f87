import java.lang.reflect.Constructor;
import java.lang.reflect.Field;
import java.lang.reflect.Method;
import java.lang.reflect.Modifier;
import java.util.Arrays;
import java.util.Set;
import java.util.TreeSet;
import java.util.stream.Collectors;

/** The public face is the document's, and nothing beside it can be reached from outside. */
public final class FaceTest {
    private static final String[] FACE = {
        "int letter(int)", "int blank()", "int fault()", "int tables()", "int row(int, int, int)", "int as(int)",
        "int put(int, int)", "int take(int, int)", "int key(int, int, int)", "int memory(int)", "int be(int)",
        "int run(int)", "int out(int, int)", "int log(int, int)", "int ledger(int)", "int spare()",
        "int see(int, boolean)", "int forget()", "int sorts(int)", "int drawn(int, int, int)", "int image()",
        "int restore()", "int count(int)", "long digest()"
    };
    private static final String[] CONSTANTS = {"NONE", "UNKNOWN", "OUTSIDE", "STATE", "FULL"};

    private static int wrong = 0;

    private static void check(String what, boolean right) {
        if (!right) {
            wrong++;
            System.out.println("face: " + what);
        }
    }

    public static void main(String[] args) {
        Class<?> face = SpillJoin.class;
        check("the class is public and final", Modifier.isPublic(face.getModifiers()) && Modifier.isFinal(face.getModifiers()));
        checkMethods(face);
        checkFields(face);
        Constructor<?>[] constructors = face.getDeclaredConstructors();
        check("one public constructor without arguments", constructors.length == 1
            && Modifier.isPublic(constructors[0].getModifiers()) && constructors[0].getParameterCount() == 0);
        for (Class<?> inside : face.getDeclaredClasses()) {
            int is = inside.getModifiers();
            check(inside + " is static, not public, not protected",
                Modifier.isStatic(is) && !Modifier.isPublic(is) && !Modifier.isProtected(is));
            for (Method method : inside.getDeclaredMethods()) {
                check(method + " bears the name of a public one", !publicNames().contains(method.getName()));
            }
        }
        System.out.println(wrong == 0 ? "the face is as due" : wrong + " faults of the face");
        if (wrong != 0) System.exit(1);
    }

    private static Set<String> publicNames() {
        return Arrays.stream(FACE).map(m -> m.substring(m.indexOf(' ') + 1, m.indexOf('('))).collect(Collectors.toSet());
    }

    private static void checkMethods(Class<?> face) {
        Set<String> found = new TreeSet<>();
        for (Method method : face.getDeclaredMethods()) {
            if (Modifier.isPrivate(method.getModifiers())) {
                check(method + " bears the name of a public one", !publicNames().contains(method.getName()));
                continue;
            }
            check(method + " is public and no static one",
                Modifier.isPublic(method.getModifiers()) && !Modifier.isStatic(method.getModifiers()));
            String arguments = Arrays.stream(method.getParameterTypes()).map(Class::getName).collect(Collectors.joining(", "));
            found.add(method.getReturnType().getName() + " " + method.getName() + "(" + arguments + ")");
        }
        Set<String> due = new TreeSet<>(Arrays.asList(FACE));
        check("methods are " + found + ", due are " + due, found.equals(due));
    }

    private static void checkFields(Class<?> face) {
        Set<String> found = new TreeSet<>();
        for (Field field : face.getDeclaredFields()) {
            int is = field.getModifiers();
            if (Modifier.isStatic(is)) {
                check(field + " is final", Modifier.isFinal(is));
            }
            if (!Modifier.isPrivate(is)) {
                check(field + " is a public constant of int",
                    Modifier.isPublic(is) && Modifier.isStatic(is) && field.getType() == int.class);
                found.add(field.getName());
            }
        }
        check("constants are " + found, found.equals(new TreeSet<>(Arrays.asList(CONSTANTS))));
    }
}
