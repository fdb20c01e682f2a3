import java.lang.reflect.Constructor;
import java.lang.reflect.Field;
import java.lang.reflect.Member;
import java.lang.reflect.Method;
import java.lang.reflect.Modifier;
import java.util.ArrayList;
import java.util.Collections;
import java.util.List;
import java.util.regex.Matcher;
import java.util.regex.Pattern;

/** The public face is the document's, and nothing else can be seen from outside. */
public final class FaceTest {
    private static final String FACE = "The public face";
    private static final Pattern METHOD = Pattern.compile("(?:public )?(int|long) (\\w+)\\(([^)]*)\\)(?: throws ([\\w, ]+))?");

    private static final Check check = new Check();

    public static void main(String[] args) {
        theClass();
        methods();
        headsOfPromises();
        constants();
        constructor();
        poolsJoined();
        check.end();
    }

    private static boolean isHidden(Member m) {
        return Modifier.isPrivate(m.getModifiers()) || m.isSynthetic();
    }

    private static String written(Method m) {
        StringBuilder s = new StringBuilder(m.getReturnType().getName()).append(' ').append(m.getName()).append('(');
        for (int i = 0; i < m.getParameterCount(); i++) {
            s.append(i == 0 ? "" : ",").append(m.getParameterTypes()[i].getName());
        }
        s.append(')');
        for (Class<?> e : m.getExceptionTypes()) {
            s.append(' ').append(e.getSimpleName());
        }
        return s.toString();
    }

    /** The document's words for a method, in the same form. */
    private static String written(Matcher m) {
        String types = m.group(3).replaceAll(" \\w+(,|$)", "$1").replace(" ", "");
        String thrown = m.group(4) == null ? "" : " " + m.group(4).replace(",", "");
        return m.group(1) + " " + m.group(2) + "(" + types + ")" + thrown;
    }

    private static List<String> told(String words) {
        List<String> all = new ArrayList<>();
        Matcher m = METHOD.matcher(words);
        while (m.find()) {
            all.add(written(m));
        }
        return all;
    }

    private static void theClass() {
        check.of(FACE, "public final class ClassPools {");
        check.due("the class", Modifier.toString(ClassPools.class.getModifiers()), "public final");
        check.due("its package", ClassPools.class.getPackageName(), "");
        check.due("the class above it", ClassPools.class.getSuperclass().getName(), "java.lang.Object");
        check.due("its faces", ClassPools.class.getInterfaces().length, 0);
        for (Class<?> inside : ClassPools.class.getDeclaredClasses()) {
            int modifiers = inside.getModifiers();
            boolean right = Modifier.isStatic(modifiers) && !Modifier.isPublic(modifiers) && !Modifier.isProtected(modifiers);
            check.due(inside.getName(), right ? 1 : 0, 1);
        }
    }

    private static void methods() {
        check.of(FACE, "public long number(int file, int i) throws IllegalArgumentException, IndexOutOfBoundsException,"
            + " NullPointerException, ClassCastException;");
        List<String> methods = new ArrayList<>();
        for (Method m : ClassPools.class.getDeclaredMethods()) {
            if (!isHidden(m)) {
                methods.add(written(m));
                check.due(m.getName(), Modifier.toString(m.getModifiers()), "public");
            }
        }
        List<String> want = told(Document.sections().get(FACE));
        check.due("methods that the document tells", want.size(), 18);
        Collections.sort(methods);
        Collections.sort(want);
        check.due("methods", methods.toString(), want.toString());
    }

    /** The face and the heads of the promises tell the same methods, in one order. */
    private static void headsOfPromises() {
        List<String> face = told(Document.sections().get(FACE));
        for (int n = 2; n <= 19; n++) {
            String section = "Promise " + n;
            String head = Document.sections().get(section).split("`")[1];
            check.of(section, "`" + head + "`: ");
            check.due("its method", told(head).toString(), List.of(face.get(n - 2)).toString());
        }
    }

    private static void constants() {
        check.of(FACE, "public static final int NONE = -1, BAD = -2, FULL = -3;");
        List<String> fields = new ArrayList<>();
        for (Field f : ClassPools.class.getDeclaredFields()) {
            if (!isHidden(f)) {
                fields.add(f.toString());
            }
        }
        Collections.sort(fields);
        String constant = "public static final int ClassPools.";
        check.due("fields", fields.toString(), List.of(constant + "BAD", constant + "FULL", constant + "NONE").toString());
        check.due("NONE", ClassPools.NONE, -1);
        check.due("BAD", ClassPools.BAD, -2);
        check.due("FULL", ClassPools.FULL, -3);
    }

    private static void constructor() {
        check.of(FACE, "public ClassPools();");
        Constructor<?>[] constructors = ClassPools.class.getDeclaredConstructors();
        check.due("constructors", constructors.length, 1);
        check.due("constructor", constructors[0].toString(), "public ClassPools()");
    }

    private static void poolsJoined() {
        check.of("Terms", "Ahead of the calls `join`, `joined`, `meaning`, `alike`, `write`, `back` the interface says:"
            + " ---- pools joined.");
        String[] parts = Document.read("src/main/java/ClassPools.java").split("---- pools joined");
        check.due("where the words part the class", parts.length, 2);
        for (String name : new String[] {"join", "joined", "meaning", "alike", "write", "back"}) {
            check.due(name + " is behind them", parts[parts.length - 1].contains("public int " + name + "(") ? 1 : 0, 1);
        }
        check.due("out is ahead of them", parts[0].contains("public int out(") ? 1 : 0, 1);
    }
}
