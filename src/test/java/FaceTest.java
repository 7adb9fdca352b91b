import java.lang.reflect.Constructor;
import java.lang.reflect.Field;
import java.lang.reflect.Member;
import java.lang.reflect.Method;
import java.lang.reflect.Modifier;
import java.util.Arrays;
import java.util.Set;
import java.util.TreeSet;

/** The public face, and rule 1 of LANGUAGE.md: no member beside it that others can see. */
public final class FaceTest {
    private static final Checks CHECKS = new Checks();

    public static void main(String[] args) {
        Class<?> face = BalanceRoom.class;
        CHECKS.dueTrue("public and final", Modifier.isPublic(face.getModifiers())
                && Modifier.isFinal(face.getModifiers()));
        members(face);
        hiddenRest(face);
        nestedOnes(face);
        CHECKS.end();
    }

    private static void members(Class<?> face) {
        Set<String> got = new TreeSet<>();
        for (Method method : face.getDeclaredMethods()) {
            if (Modifier.isPublic(method.getModifiers())) {
                got.add(method.getReturnType() + " " + method.getName() + Arrays.toString(method.getParameterTypes())
                        + new TreeSet<>(Arrays.asList(names(method.getExceptionTypes()))));
            }
        }
        String argument = "IllegalArgumentException";
        String state = "IllegalStateException";
        Set<String> want = new TreeSet<>(Arrays.asList(
                "int read[int, long][" + argument + "]",
                "int order[int, int][" + argument + ", " + state + "]",
                "int wipe[][]",
                "long show[int][ArithmeticException, " + argument + ", " + state + "]",
                "int keep[int][ArithmeticException, " + argument + ", " + state + "]",
                "int failed[][]",
                "long reach[int, int][" + argument + ", " + state + "]",
                "int top[int, boolean][" + argument + "]",
                "long look[int, int][" + argument + "]",
                "int forget[int][" + argument + "]"));
        CHECKS.dueTrue("the public methods are " + got + ", due are " + want, got.equals(want));
        Constructor<?>[] constructors = face.getConstructors();
        CHECKS.dueTrue("one constructor without parameters", face.getDeclaredConstructors().length == 1
                && constructors.length == 1 && constructors[0].getParameterCount() == 0);
        Field[] fields = face.getFields();
        CHECKS.dueTrue("one public field, NONE", fields.length == 1 && fields[0].getName().equals("NONE")
                && fields[0].getType() == int.class && Modifier.isFinal(fields[0].getModifiers())
                && Modifier.isStatic(fields[0].getModifiers()));
    }

    private static String[] names(Class<?>[] classes) {
        String[] names = new String[classes.length];
        for (int i = 0; i < names.length; i++) {
            names[i] = classes[i].getSimpleName();
        }
        return names;
    }

    private static void hiddenRest(Class<?> face) {
        for (Method method : face.getDeclaredMethods()) {
            publicOrPrivate(method);
        }
        for (Field field : face.getDeclaredFields()) {
            publicOrPrivate(field);
        }
    }

    private static void publicOrPrivate(Member member) {
        int modifiers = member.getModifiers();
        CHECKS.dueTrue(member + " is public or private", Modifier.isPublic(modifiers) || Modifier.isPrivate(modifiers));
    }

    private static void nestedOnes(Class<?> face) {
        Set<String> ofTheFace = new TreeSet<>();
        for (Method method : face.getMethods()) {
            ofTheFace.add(method.getName());
        }
        for (Class<?> nested : face.getDeclaredClasses()) {
            int modifiers = nested.getModifiers();
            CHECKS.dueTrue(nested + " is hidden and static", !Modifier.isPublic(modifiers)
                    && !Modifier.isProtected(modifiers) && Modifier.isStatic(modifiers));
            for (Method method : nested.getDeclaredMethods()) {
                CHECKS.dueTrue(method + " has a name of its own", !ofTheFace.contains(method.getName()));
            }
            for (Field field : nested.getDeclaredFields()) {
                int kind = field.getModifiers();
                CHECKS.dueTrue(field + " is no static state", !Modifier.isStatic(kind) || Modifier.isFinal(kind));
            }
        }
    }
}
