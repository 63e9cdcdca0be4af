import java.lang.reflect.Constructor;
import java.lang.reflect.Field;
import java.lang.reflect.Method;
import java.lang.reflect.Modifier;
import java.util.Arrays;
import java.util.Set;
import java.util.TreeSet;

/** The public face, and rule 1 of LANGUAGE.md: nothing else is to be seen from outside. */
public final class FaceTest {
    private static final String[] FACE = {
        "int open() IllegalStateException",
        "int bid(int,int,int) IndexOutOfBoundsException,IllegalArgumentException,IllegalStateException",
        "int withdraw(int,int) IndexOutOfBoundsException,IllegalArgumentException,IllegalStateException",
        "int award(int) IndexOutOfBoundsException,IllegalStateException",
        "int passOn(int,int,int) IndexOutOfBoundsException,IllegalStateException,IllegalArgumentException",
        "int turnover(int) IllegalArgumentException",
        "int won(int) IllegalArgumentException",
        "int suspicion(int,int) IllegalArgumentException",
        "int sign(int,int,int) IndexOutOfBoundsException,IllegalArgumentException",
        "int setMark(int) IllegalArgumentException",
        "int worst() ",
        "int file(int,int) IllegalArgumentException,IllegalStateException",
        "int matters(int) IndexOutOfBoundsException",
        "boolean tell(int,int,int) IndexOutOfBoundsException,IllegalArgumentException,IllegalStateException",
        "int compensate(int,int) IllegalArgumentException",
        "int close(int) IndexOutOfBoundsException,IllegalStateException",
        "int fine(int,int) IndexOutOfBoundsException,IllegalArgumentException",
        "int firstTeller(int) IndexOutOfBoundsException",
    };

    public static void main(String[] args) {
        Class<?> face = CartelWatch.class;
        Checks.same("modifiers of the class", Modifier.toString(face.getModifiers()), "public final");
        methods(face);
        constructors(face);
        for (Field field : face.getDeclaredFields()) {
            Checks.same("is private: " + field, Modifier.isPrivate(field.getModifiers()), true);
            staticIsFinal(field);
        }
        for (Class<?> inside : face.getDeclaredClasses()) {
            insideClass(inside);
        }
        Checks.end();
    }

    private static void methods(Class<?> face) {
        Set<String> due = new TreeSet<>(Arrays.asList(FACE));
        Set<String> seen = new TreeSet<>();
        Set<String> publicNames = new TreeSet<>();
        for (Method method : face.getDeclaredMethods()) {
            if (!Modifier.isPrivate(method.getModifiers())) {
                seen.add(text(method));
                publicNames.add(method.getName());
                Checks.same("modifiers of " + method, Modifier.toString(method.getModifiers()), "public");
            }
        }
        Checks.same("the methods of the face", seen.toString(), due.toString());
        for (Method method : face.getDeclaredMethods()) {
            if (Modifier.isPrivate(method.getModifiers())) {
                Checks.same("has a public one's name: " + method, publicNames.contains(method.getName()), false);
            }
        }
    }

    private static String text(Method method) {
        return method.getReturnType().getName() + " " + method.getName()
                + "(" + names(method.getParameterTypes()) + ") " + names(method.getExceptionTypes());
    }

    private static String names(Class<?>[] types) {
        StringBuilder text = new StringBuilder();
        for (Class<?> type : types) {
            text.append(text.length() == 0 ? "" : ",").append(type.getSimpleName());
        }
        return text.toString();
    }

    private static void constructors(Class<?> face) {
        Constructor<?>[] all = face.getDeclaredConstructors();
        Checks.same("number of constructors", all.length, 1);
        Checks.same("the constructor", all[0].toString(), "public CartelWatch()");
    }

    private static void staticIsFinal(Field field) {
        if (Modifier.isStatic(field.getModifiers())) {
            Checks.same("is final: " + field, Modifier.isFinal(field.getModifiers()), true);
        }
    }

    private static void insideClass(Class<?> inside) {
        int modifiers = inside.getModifiers();
        Checks.same("is static: " + inside, Modifier.isStatic(modifiers), true);
        Checks.same("is seen from outside: " + inside,
                Modifier.isPublic(modifiers) || Modifier.isProtected(modifiers), false);
        for (Field field : inside.getDeclaredFields()) {
            staticIsFinal(field);
        }
    }
}
