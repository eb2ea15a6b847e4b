import java.lang.reflect.Constructor;
import java.lang.reflect.Executable;
import java.lang.reflect.Field;
import java.lang.reflect.Method;
import java.lang.reflect.Modifier;
import java.util.Arrays;
import java.util.TreeSet;

/** The public face of the document, and rule 1 of LANGUAGE.md: nothing else can be seen from outside. */
public final class FaceTest {
    private static final Due DUE = new Due("FaceTest");

    private static final String INDEX = "IndexOutOfBoundsException";
    private static final String ARGUMENT = "IllegalArgumentException";
    private static final String STATE = "IllegalStateException";

    private static final String[] FACE = {
        "int define(int, int, boolean, int, int) " + INDEX + " " + ARGUMENT + " " + STATE,
        "int removeClass(int, int) " + INDEX + " " + STATE,
        "int setClass(int, int, int, int) " + INDEX + " " + ARGUMENT + " " + STATE,
        "boolean exists(int, int) " + INDEX,
        "int classInfo(int, int, int) " + INDEX + " " + ARGUMENT,
        "int copyVersion()",
        "int draft(int, int, int, int) " + ARGUMENT,
        "int addField(int, int, int, int, int) " + INDEX + " " + ARGUMENT + " " + STATE,
        "int addMethod(int, int, int, int, int) " + INDEX + " " + ARGUMENT + " " + STATE,
        "int removeMember(int, int) " + INDEX,
        "int setMember(int, int, int, int) " + INDEX + " " + ARGUMENT,
        "int moveMember(int, int, int) " + INDEX + " " + ARGUMENT + " " + STATE,
        "int members(int) " + INDEX,
        "int memberInfo(int, int, int) " + INDEX + " " + ARGUMENT,
        "boolean fits(int, int, int) " + INDEX + " " + ARGUMENT,
        "int field(int, int, int) " + INDEX + " " + ARGUMENT,
        "int method(int, int, int) " + INDEX + " " + ARGUMENT,
        "int selected(int, int, int) " + INDEX + " " + ARGUMENT,
        "int addClient(int, int, int, int) " + ARGUMENT + " " + STATE,
        "int setBase(int, int) " + INDEX + " " + ARGUMENT,
        "int removeClient(int) " + INDEX,
        "int clients()",
        "int clientInfo(int, int) " + INDEX + " " + ARGUMENT,
        "int compile(int, int) " + INDEX,
        "int link(int, int) " + INDEX,
        "int target(int, int) " + INDEX,
        "int verdict(int) " + INDEX,
        "int count(int) " + ARGUMENT,
        "int sample(int, int, int) " + ARGUMENT,
        "int undo() " + STATE,
        "long checksum()"};

    public static void main(String[] args) {
        Class<?> face = CompatibilityJudge.class;
        DUE.is("public and final", face.getModifiers(), Modifier.PUBLIC | Modifier.FINAL);
        methods(face);
        fields(face);
        Constructor<?>[] constructors = face.getDeclaredConstructors();
        DUE.is("constructors", constructors.length, 1);
        DUE.is("constructor", seen(constructors[0]), "public CompatibilityJudge()");
        for (Class<?> inside : face.getDeclaredClasses()) {
            DUE.is(inside + " is static", Modifier.isStatic(inside.getModifiers()), true);
            int open = Modifier.PUBLIC | Modifier.PROTECTED;
            DUE.is(inside + " is not open", (inside.getModifiers() & open) == 0, true);
        }
        DUE.end();
    }

    private static String seen(Executable e) {
        return e.toString();
    }

    private static void methods(Class<?> face) {
        TreeSet<String> due = new TreeSet<>(Arrays.asList(FACE));
        TreeSet<String> got = new TreeSet<>();
        TreeSet<String> publicNames = new TreeSet<>();
        for (Method m : face.getDeclaredMethods()) {
            if (Modifier.isPublic(m.getModifiers())) {
                publicNames.add(m.getName());
                got.add(text(m));
            }
        }
        for (String line : due) {
            DUE.is("there is " + line, got.contains(line), true);
        }
        for (String line : got) {
            DUE.is("the document has " + line, due.contains(line), true);
        }
        for (Method m : face.getDeclaredMethods()) {
            if (!Modifier.isPublic(m.getModifiers()) && !m.isSynthetic()) {
                DUE.is(m + " is private", Modifier.isPrivate(m.getModifiers()), true);
                DUE.is(m + " has a name of its own", publicNames.contains(m.getName()), false);
            }
        }
        for (Class<?> inside : face.getDeclaredClasses()) {
            for (Method m : inside.getDeclaredMethods()) {
                if (Modifier.isPrivate(m.getModifiers())) {
                    DUE.is(m + " has a name of its own", publicNames.contains(m.getName()), false);
                }
            }
        }
    }

    private static String text(Method m) {
        StringBuilder s = new StringBuilder();
        s.append(m.getReturnType().getSimpleName()).append(' ').append(m.getName()).append('(');
        for (int k = 0; k < m.getParameterCount(); k++) {
            s.append(k == 0 ? "" : ", ").append(m.getParameterTypes()[k].getSimpleName());
        }
        s.append(')');
        for (Class<?> e : m.getExceptionTypes()) {
            s.append(' ').append(e.getSimpleName());
        }
        return s.toString();
    }

    private static void fields(Class<?> face) {
        int open = 0;
        for (Field f : face.getDeclaredFields()) {
            if (f.isSynthetic()) {
                continue;
            }
            if (Modifier.isStatic(f.getModifiers())) {
                DUE.is(f + " is final", Modifier.isFinal(f.getModifiers()), true);
            }
            if (!Modifier.isPrivate(f.getModifiers())) {
                open++;
                DUE.is(f + " is a constant of the document", f.getName().equals("NONE") || f.getName().equals("INT"),
                        true);
            }
        }
        DUE.is("constants", open, 2);
    }
}
