import java.lang.reflect.Constructor;
import java.lang.reflect.Field;
import java.lang.reflect.Method;
import java.lang.reflect.Modifier;
import java.util.Arrays;
import java.util.TreeSet;

/** The public face: its constant, constructor and methods, what they may throw, and nothing else that can be seen. */
public final class FaceTest {
    private static final String ILLEGAL = "IllegalArgumentException";
    private static final String STATE = "IllegalStateException";
    private static final String OUTSIDE = "IndexOutOfBoundsException";
    private static final String FULL = "UnsupportedOperationException";

    public static void main(String[] args) {
        Check.is("NONE", WardEngine.NONE, -1);
        Check.is("public and final", WardEngine.class.getModifiers() & (Modifier.PUBLIC | Modifier.FINAL),
                Modifier.PUBLIC | Modifier.FINAL);
        TreeSet<String> due = new TreeSet<>(Arrays.asList(
                "int put 1 " + ILLEGAL + " " + FULL, "void end 1 " + ILLEGAL, "int policy 0", "int image 0",
                "int listing 2 " + OUTSIDE, "int codeOf 2 " + OUTSIDE + " " + ILLEGAL, "void begin 1",
                "void code 3 " + OUTSIDE, "void word 4 " + OUTSIDE, "void register 3 " + OUTSIDE, "int input 2 " + FULL,
                "int run 1 " + ILLEGAL + " " + STATE, "int state 1 " + ILLEGAL,
                "int registerOf 2 " + OUTSIDE + " " + ILLEGAL, "int wordOf 2 " + OUTSIDE + " " + ILLEGAL,
                "int output 1 " + OUTSIDE, "int pairOf 2 " + OUTSIDE + " " + ILLEGAL, "int names 1 " + ILLEGAL,
                "int blame 0", "int journal 2 " + OUTSIDE + " " + ILLEGAL, "int count 2 " + ILLEGAL,
                "int cacheOf 2 " + OUTSIDE + " " + ILLEGAL, "void keep 0",
                "int differ 2 " + ILLEGAL + " " + STATE + " " + FULL, "int witness 1 " + ILLEGAL + " " + STATE,
                "void twin 0", "void swap 0", "int unlike 1 " + ILLEGAL));
        TreeSet<String> got = new TreeSet<>();
        for (Method m : WardEngine.class.getDeclaredMethods()) {
            if (!Modifier.isPrivate(m.getModifiers())) {
                got.add(shown(m));
            }
        }
        Check.same("the methods", got.toString(), due.toString());
        int constructors = 0;
        for (Constructor<?> c : WardEngine.class.getDeclaredConstructors()) {
            constructors += Modifier.isPublic(c.getModifiers()) && c.getParameterCount() == 0 ? 1 : 10;
        }
        Check.is("the constructor", constructors, 1);
        for (Field f : WardEngine.class.getDeclaredFields()) {
            boolean hidden = Modifier.isPrivate(f.getModifiers());
            Check.is("field " + f.getName(), hidden != f.getName().equals("NONE") ? 1 : 0, 1);
        }
        for (Class<?> inner : WardEngine.class.getDeclaredClasses()) {
            boolean good = Modifier.isStatic(inner.getModifiers()) && !Modifier.isPublic(inner.getModifiers());
            Check.is("class " + inner.getSimpleName(), good ? 1 : 0, 1);
        }
        Check.end("FaceTest");
    }

    private static String shown(Method m) {
        StringBuilder all = new StringBuilder(m.getReturnType() + " " + m.getName() + " " + m.getParameterCount());
        for (Class<?> e : m.getExceptionTypes()) {
            all.append(' ').append(e.getSimpleName());
        }
        for (Class<?> p : m.getParameterTypes()) {
            all.append(p == int.class ? "" : " not int");
        }
        return all.toString();
    }
}
