import java.lang.reflect.Constructor;
import java.lang.reflect.Field;
import java.lang.reflect.Method;
import java.lang.reflect.Modifier;
import java.util.ArrayList;
import java.util.Collections;
import java.util.HashSet;
import java.util.List;
import java.util.Set;

/** The class has the document's face and nothing else that can be seen from outside. */
public final class FaceTest {
    private static final String INDEX = "IndexOutOfBoundsException";
    private static final String ARGUMENT = "IllegalArgumentException";
    private static final String STATE = "IllegalStateException";

    public static void main(String[] args) {
        Class<?> face = OrdinalRink.class;
        Check.is("final and public", Modifier.PUBLIC | Modifier.FINAL, face.getModifiers());
        methods(face);
        constants(face);
        constructors(face);
        nested(face);
        Check.end();
    }

    private static void methods(Class<?> face) {
        List<String> due = new ArrayList<>(List.of(
                "void event(int,int) " + ARGUMENT,
                "void segment(int,int,int) " + INDEX + " " + ARGUMENT + " " + STATE,
                "void mark(int,int,int,int,int) " + INDEX + " " + ARGUMENT + " " + STATE,
                "int deduct(int,int,int,int) " + INDEX + " " + ARGUMENT + " " + STATE,
                "int strike(int,int,boolean) " + INDEX + " " + STATE,
                "int withdraw(int,int) " + INDEX + " " + ARGUMENT + " " + STATE,
                "int ordinal(int,int,int) " + INDEX,
                "int placing(int,int,int) " + INDEX,
                "int step(int,int,int) " + INDEX,
                "int needed(int,int,int) " + INDEX + " " + ARGUMENT,
                "int publish(int) " + INDEX + " " + STATE,
                "int total(int) " + INDEX,
                "int rank(int) " + INDEX,
                "int proof(int,int) " + INDEX + " " + STATE,
                "boolean type(char)",
                "int check(int) " + INDEX,
                "int length()",
                "char charAt(int)"));
        List<String> got = new ArrayList<>();
        Set<String> publicNames = new HashSet<>();
        for (Method m : face.getDeclaredMethods()) {
            if (!Modifier.isPrivate(m.getModifiers())) {
                got.add(written(m));
                publicNames.add(m.getName());
                Check.is("modifiers of " + m.getName(), Modifier.PUBLIC, m.getModifiers());
            }
        }
        Collections.sort(due);
        Collections.sort(got);
        Check.is("methods", due.toString(), got.toString());
        for (Method m : face.getDeclaredMethods()) {
            if (Modifier.isPrivate(m.getModifiers()) && publicNames.contains(m.getName())) {
                Check.is("private method", "a name of its own", m.getName());
            }
        }
    }

    private static String written(Method m) {
        StringBuilder line = new StringBuilder(m.getReturnType().getName());
        line.append(' ').append(m.getName()).append('(');
        for (int p = 0; p < m.getParameterCount(); p++) {
            line.append(p == 0 ? "" : ",").append(m.getParameterTypes()[p].getName());
        }
        line.append(')');
        for (Class<?> thrown : m.getExceptionTypes()) {
            line.append(' ').append(thrown.getSimpleName());
        }
        return line.toString();
    }

    private static void constants(Class<?> face) {
        List<String> got = new ArrayList<>();
        for (Field f : face.getDeclaredFields()) {
            if (!Modifier.isPrivate(f.getModifiers())) {
                got.add(Modifier.toString(f.getModifiers()) + " " + f.getType() + " " + f.getName());
            } else if (Modifier.isStatic(f.getModifiers())) {
                Check.is(f.getName() + " is final", 1, Modifier.isFinal(f.getModifiers()) ? 1 : 0);
            }
        }
        Collections.sort(got);
        Check.is("constants", "[public static final int FREE, public static final int NONE, "
                + "public static final int SHORT]", got.toString());
        Check.is("SHORT", 0, OrdinalRink.SHORT);
        Check.is("FREE", 1, OrdinalRink.FREE);
        Check.is("NONE", -1, OrdinalRink.NONE);
    }

    private static void constructors(Class<?> face) {
        Constructor<?>[] all = face.getDeclaredConstructors();
        Check.is("constructors", 1, all.length);
        Check.is("its parameters", 0, all[0].getParameterCount());
        Check.is("its modifiers", Modifier.PUBLIC, all[0].getModifiers());
    }

    private static void nested(Class<?> face) {
        for (Class<?> inside : face.getDeclaredClasses()) {
            int modifiers = inside.getModifiers();
            Check.is(inside.getName() + " is static", 1, Modifier.isStatic(modifiers) ? 1 : 0);
            Check.is(inside.getName() + " is hidden", 0, modifiers & (Modifier.PUBLIC | Modifier.PROTECTED));
        }
    }
}
