import java.lang.reflect.Constructor;
import java.lang.reflect.Field;
import java.lang.reflect.Member;
import java.lang.reflect.Method;
import java.lang.reflect.Modifier;
import java.util.ArrayList;
import java.util.Collections;
import java.util.List;

/** The public face is the document's, and nothing else can be seen from outside. */
public final class FaceTest {
    private static final String[] METHODS = {
        "int alike(int,int)", "int attribute(int,int,int,int,int)", "int back()", "int drop(int)",
        "int entry(int,int,int)", "int feed(long,int)", "int file(int,int)", "int join()",
        "int joined(int,int)", "int meaning(int,int)", "int member(int,int,int,int)", "int out(int)",
        "int place()", "int read()", "int text(int,int,int)", "int told(int,int,int,int)",
        "int write(int,int)",
        "long number(int,int) IllegalArgumentException IndexOutOfBoundsException NullPointerException"
            + " ClassCastException",
    };

    private static boolean isHidden(Member m) {
        return Modifier.isPrivate(m.getModifiers()) || m.isSynthetic();
    }

    private static String written(Method m) {
        StringBuilder s = new StringBuilder(m.getReturnType().getName()).append(' ').append(m.getName()).append('(');
        for (int i = 0; i < m.getParameterCount(); i++) {
            s.append(i == 0 ? "" : ",").append(m.getParameterTypes()[i].getName());
        }
        s.append(')');
        for (Class<?> e : m.getExceptionTypes()) {
            s.append(' ').append(e.getSimpleName());
        }
        return s.toString();
    }

    public static void main(String[] args) {
        Check check = new Check();
        List<String> methods = new ArrayList<>();
        for (Method m : ClassPools.class.getDeclaredMethods()) {
            if (!isHidden(m)) {
                methods.add(written(m));
                check.due(m.getName() + " is public", Modifier.isPublic(m.getModifiers()) ? 1 : 0, 1);
            }
        }
        Collections.sort(methods);
        check.due("methods", methods.toString(), List.of(METHODS).toString());
        List<String> fields = new ArrayList<>();
        for (Field f : ClassPools.class.getDeclaredFields()) {
            if (!isHidden(f)) {
                fields.add(f.toString());
            }
        }
        Collections.sort(fields);
        String constant = "public static final int ClassPools.";
        check.due("fields", fields.toString(), List.of(constant + "BAD", constant + "FULL", constant + "NONE").toString());
        Constructor<?>[] constructors = ClassPools.class.getDeclaredConstructors();
        check.due("constructors", constructors.length, 1);
        check.due("constructor", constructors[0].toString(), "public ClassPools()");
        check.due("final", Modifier.isFinal(ClassPools.class.getModifiers()) ? 1 : 0, 1);
        check.due("NONE", ClassPools.NONE, -1);
        check.due("BAD", ClassPools.BAD, -2);
        check.due("FULL", ClassPools.FULL, -3);
        check.end();
    }
}
