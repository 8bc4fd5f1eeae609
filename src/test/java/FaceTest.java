import java.lang.reflect.Constructor;
import java.lang.reflect.Field;
import java.lang.reflect.Member;
import java.lang.reflect.Method;
import java.lang.reflect.Modifier;
import java.util.Arrays;
import java.util.Set;
import java.util.TreeSet;
import java.util.stream.Collectors;

/** The face is the document's, to the letter, and nothing else can be seen from outside (LANGUAGE.md, rule 1). */
public final class FaceTest {
    private static final String INDEX = " throws IndexOutOfBoundsException";
    private static final String[] METHODS = {
        "int turn(int)" + INDEX + ", IllegalStateException",
        "int back(int)" + INDEX + ", IllegalStateException",
        "int word() throws IllegalArgumentException, IllegalStateException",
        "int home()",
        "int cut(int, int, int)" + INDEX + ", IllegalArgumentException",
        "int stick(int)" + INDEX,
        "int learn()",
        "int append(int) throws IllegalArgumentException, IllegalStateException",
        "int clearBuffer()",
        "int firstError()",
        "int keep()",
        "int goBack() throws IllegalStateException",
        "int undo() throws IllegalStateException",
        "int at(int, int)" + INDEX + ", IllegalArgumentException",
        "int key(int, int)" + INDEX + ", IllegalArgumentException",
        "int pair(int, int, int)" + INDEX + ", IllegalArgumentException",
        "int ofWord(int) throws IllegalArgumentException",
        "int count(int) throws IllegalArgumentException",
        "int openIn(int) throws IllegalArgumentException",
        "int ifTurned(int, int)" + INDEX + ", IllegalArgumentException",
        "int closest()",
        "double openShare()",
        "float meanNotch()",
        "long digest()",
    };

    private static final Checks checks = new Checks("face");

    public static void main(String[] args) {
        Class<?> face = PairedTumblers.class;
        same("the class is public and final", Modifier.PUBLIC | Modifier.FINAL, face.getModifiers());
        same("no package", 1, face.getPackageName().isEmpty() ? 1 : 0);
        methods(face);
        others(face);
        inside(face);
        checks.end();
    }

    private static void same(String what, long due, long got) {
        checks.same(what, due, got);
    }

    private static String told(Method m) {
        String list = names(m.getParameterTypes());
        String thrown = names(m.getExceptionTypes());
        return m.getReturnType().getSimpleName() + " " + m.getName() + "(" + list + ")"
            + (thrown.isEmpty() ? "" : " throws " + thrown);
    }

    private static String names(Class<?>[] types) {
        return Arrays.stream(types).map(Class::getSimpleName).collect(Collectors.joining(", "));
    }

    private static void methods(Class<?> face) {
        Set<String> due = new TreeSet<>(Arrays.asList(METHODS));
        Set<String> publicNames = new TreeSet<>();
        for (Method m : face.getDeclaredMethods()) {
            if (!Modifier.isPrivate(m.getModifiers())) {
                same("in the face: " + told(m), 1, due.remove(told(m)) ? 1 : 0);
                same("public alone: " + told(m), Modifier.PUBLIC, m.getModifiers());
                publicNames.add(m.getName());
            }
        }
        same("missing " + due, 0, due.size());
        for (Method m : face.getDeclaredMethods()) {
            if (Modifier.isPrivate(m.getModifiers())) {
                same("a name of its own: " + told(m), 0, publicNames.contains(m.getName()) ? 1 : 0);
            }
        }
    }

    private static void others(Class<?> face) {
        Constructor<?>[] made = face.getDeclaredConstructors();
        same("constructors", 1, made.length);
        same("public constructor", Modifier.PUBLIC, made[0].getModifiers());
        same("its parameters", 0, made[0].getParameterCount());
        for (Field f : face.getDeclaredFields()) {
            if (!f.getName().equals("NONE")) {
                same("private field: " + f.getName(), 1, isPrivate(f));
            } else {
                same("NONE", Modifier.PUBLIC | Modifier.STATIC | Modifier.FINAL, f.getModifiers());
                same("NONE is an int", 1, f.getType() == int.class ? 1 : 0);
            }
            staticIsFinal(f);
        }
    }

    private static int isPrivate(Member member) {
        return Modifier.isPrivate(member.getModifiers()) ? 1 : 0;
    }

    private static void staticIsFinal(Field f) {
        if (Modifier.isStatic(f.getModifiers())) {
            same("static and final: " + f.getName(), 1, Modifier.isFinal(f.getModifiers()) ? 1 : 0);
        }
    }

    private static void inside(Class<?> face) {
        for (Class<?> c : face.getDeclaredClasses()) {
            same("static inside: " + c.getName(), 1, Modifier.isStatic(c.getModifiers()) ? 1 : 0);
            same("not public inside: " + c.getName(), 0, c.getModifiers() & (Modifier.PUBLIC | Modifier.PROTECTED));
            for (Field f : c.getDeclaredFields()) {
                staticIsFinal(f);
            }
        }
    }
}
