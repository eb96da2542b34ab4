import java.lang.reflect.Constructor;
import java.lang.reflect.Field;
import java.lang.reflect.Method;
import java.lang.reflect.Modifier;
import java.util.Arrays;
import java.util.Set;
import java.util.TreeSet;

/** The public face as the document has it, and no other member that others could see. */
public final class EarleyChartFaceTest {
    private static final String STATE = " java.lang.IllegalStateException";
    private static final String ARGUMENT = " java.lang.IllegalArgumentException";
    private static final String INDEX = " java.lang.IndexOutOfBoundsException";

    private static final Set<String> FACE = new TreeSet<>(Arrays.asList(
            "int addProd[int]" + STATE + ARGUMENT,
            "int addRhs[int]" + STATE + ARGUMENT,
            "int feed[int]" + STATE + ARGUMENT,
            "boolean alive[]",
            "boolean accepts[]",
            "int extract[] java.util.NoSuchElementException",
            "int witCount[]",
            "int wit[int]" + INDEX,
            "int clear[]",
            "int erase[]",
            "int items[int]" + INDEX,
            "int item[int, int]" + INDEX,
            "int steps[int, int, int]" + ARGUMENT + INDEX,
            "boolean nullable[int]" + ARGUMENT,
            "int fed[]"));

    private static int wrong = 0;

    public static void main(String[] args) {
        Class<?> face = EarleyChart.class;
        due(Modifier.isPublic(face.getModifiers()) && Modifier.isFinal(face.getModifiers()),
                "the class is public and final");
        due(face.getSuperclass() == Object.class && face.getInterfaces().length == 0,
                "the class stands alone");
        checkMethods(face);
        checkConstructors(face);
        checkFields(face);
        for (Class<?> inside : face.getDeclaredClasses()) {
            due(Modifier.isStatic(inside.getModifiers()) && !Modifier.isPublic(inside.getModifiers())
                    && !Modifier.isProtected(inside.getModifiers()), inside + " is static and not public");
            checkInside(inside);
        }
        System.out.println(wrong == 0 ? "the face is as due" : wrong + " faults of the face");
        if (wrong != 0) {
            System.exit(1);
        }
    }

    private static void due(boolean holds, String what) {
        if (!holds) {
            wrong++;
            System.out.println("not so: " + what);
        }
    }

    private static void checkMethods(Class<?> face) {
        Set<String> seen = new TreeSet<>();
        Set<String> names = new TreeSet<>();
        for (Method method : face.getDeclaredMethods()) {
            if (!Modifier.isPrivate(method.getModifiers())) {
                due(Modifier.isPublic(method.getModifiers()), method + " is public or private");
                due(!Modifier.isStatic(method.getModifiers()), method + " is not static");
                seen.add(signature(method));
                names.add(method.getName());
            }
        }
        due(seen.equals(FACE), "the methods are " + FACE + " but are " + seen);
        for (Method method : face.getDeclaredMethods()) {
            due(!Modifier.isPrivate(method.getModifiers()) || !names.contains(method.getName()),
                    method + " has a name of its own");
        }
    }

    private static String signature(Method method) {
        StringBuilder text = new StringBuilder();
        text.append(method.getReturnType().getName()).append(' ').append(method.getName());
        String[] types = new String[method.getParameterCount()];
        for (int i = 0; i < types.length; i++) {
            types[i] = method.getParameterTypes()[i].getName();
        }
        text.append(Arrays.toString(types));
        for (Class<?> thrown : method.getExceptionTypes()) {
            text.append(' ').append(thrown.getName());
        }
        return text.toString();
    }

    private static void checkConstructors(Class<?> face) {
        Constructor<?>[] all = face.getDeclaredConstructors();
        due(all.length == 1, "there is one constructor");
        due(Modifier.isPublic(all[0].getModifiers())
                && Arrays.equals(all[0].getParameterTypes(), new Class<?>[] {int.class, int.class})
                && all[0].getExceptionTypes().length == 0, "it is public, of two ints, and throws nothing");
    }

    private static void checkFields(Class<?> face) {
        for (Field field : face.getDeclaredFields()) {
            due(Modifier.isPrivate(field.getModifiers()), field + " is private");
            checkStatic(field);
        }
    }

    private static void checkInside(Class<?> inside) {
        for (Field field : inside.getDeclaredFields()) {
            checkStatic(field);
        }
        for (Method method : inside.getDeclaredMethods()) {
            due(method.getParameterCount() <= 7, method + " takes at most seven parameters");
        }
    }

    private static void checkStatic(Field field) {
        due(!Modifier.isStatic(field.getModifiers()) || Modifier.isFinal(field.getModifiers()),
                field + " is final if it is static");
    }
}
