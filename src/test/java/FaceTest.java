import java.lang.reflect.Constructor;
import java.lang.reflect.Field;
import java.lang.reflect.Method;
import java.lang.reflect.Modifier;
import java.util.Arrays;
import java.util.Set;
import java.util.TreeSet;

/** The public face: its constants, constructor and methods, and nothing beside them. */
public final class FaceTest {
    private static final String[] FACE = {
        "int entry(int)", "int name(int, char)", "int put(int, long, int)", "int block(int, int)",
        "int coder(int, int, int)", "int set(int, int, long)", "int write()", "int read()", "int fault()",
        "int of(int, int)", "long number(int, int)", "int at(int, int, int)", "int coderAt(int, int)",
        "int peek(long) ArrayIndexOutOfBoundsException",
        "int poke(long, int) ArrayIndexOutOfBoundsException IllegalArgumentException",
        "int type(long, int)", "int cut(int)", "int seal(int)", "int count(int)", "int clear()"
    };

    public static void main(String[] args) {
        Due due = new Due();
        due.is("NONE", SevenForms.NONE, -1);
        due.is("BAD", SevenForms.BAD, -2);
        due.is("STATE", SevenForms.STATE, -3);
        due.is("FULL", SevenForms.FULL, -4);
        due.is("the class is public and final", SevenForms.class.getModifiers(), Modifier.PUBLIC | Modifier.FINAL);
        methods(due);
        others(due);
        due.end();
    }

    private static void methods(Due due) {
        Set<String> got = new TreeSet<>();
        Set<String> names = new TreeSet<>();
        for (Method m : SevenForms.class.getDeclaredMethods()) {
            if (!Modifier.isPrivate(m.getModifiers()) && !m.isSynthetic()) {
                due.is(m + ": modifiers", m.getModifiers(), Modifier.PUBLIC);
                got.add(told(m));
                names.add(m.getName());
            }
        }
        Set<String> want = new TreeSet<>(Arrays.asList(FACE));
        due.holds("the methods are " + got + ", due are " + want, got.equals(want));
        for (Method m : SevenForms.class.getDeclaredMethods()) {
            if (Modifier.isPrivate(m.getModifiers())) {
                due.holds("a private method bears the name " + m.getName(), !names.contains(m.getName()));
            }
        }
    }

    private static String told(Method m) {
        StringBuilder s = new StringBuilder(m.getReturnType() + " " + m.getName() + "(");
        for (Class<?> c : m.getParameterTypes()) {
            s.append(s.charAt(s.length() - 1) == '(' ? "" : ", ").append(c);
        }
        s.append(")");
        for (Class<?> c : m.getExceptionTypes()) {
            s.append(" ").append(c.getSimpleName());
        }
        return s.toString();
    }

    private static void others(Due due) {
        Constructor<?>[] made = SevenForms.class.getDeclaredConstructors();
        due.is("constructors", made.length, 1);
        due.is("its parameters", made[0].getParameterCount(), 0);
        due.is("it is public", made[0].getModifiers(), Modifier.PUBLIC);
        int open = 0;
        for (Field f : SevenForms.class.getDeclaredFields()) {
            if (!Modifier.isPrivate(f.getModifiers()) && !f.isSynthetic()) {
                open++;
            }
            due.holds(f + ": a static field is final", !Modifier.isStatic(f.getModifiers()) || Modifier.isFinal(f.getModifiers()));
        }
        due.is("open fields", open, 4);
        for (Class<?> c : SevenForms.class.getDeclaredClasses()) {
            int m = c.getModifiers();
            due.holds(c + " is private and static", Modifier.isStatic(m) && Modifier.isPrivate(m));
        }
        due.holds("at most twelve classes", SevenForms.class.getDeclaredClasses().length < 12);
    }
}
