import java.io.IOException;
import java.lang.reflect.Constructor;
import java.lang.reflect.Field;
import java.lang.reflect.Member;
import java.lang.reflect.Method;
import java.lang.reflect.Modifier;
import java.nio.file.Files;
import java.nio.file.Path;
import java.util.ArrayList;
import java.util.Arrays;
import java.util.List;
import java.util.Set;
import java.util.TreeSet;
import java.util.regex.Matcher;
import java.util.regex.Pattern;
import java.util.stream.Collectors;

/** The face is the document's, to the letter, and nothing else can be seen from outside (LANGUAGE.md, rule 1). */
public final class FaceTest {
    private static final String INDEX = " throws IndexOutOfBoundsException";
    private static final String[] METHODS = {
        "int turn(int)" + INDEX + ", IllegalStateException",
        "int back(int)" + INDEX + ", IllegalStateException",
        "int word() throws IllegalArgumentException, IllegalStateException",
        "int home()",
        "int cut(int, int, int)" + INDEX + ", IllegalArgumentException",
        "int stick(int)" + INDEX,
        "int learn()",
        "int append(int) throws IllegalArgumentException, IllegalStateException",
        "int clearBuffer()",
        "int firstError()",
        "int keep()",
        "int goBack() throws IllegalStateException",
        "int undo() throws IllegalStateException",
        "int at(int, int)" + INDEX + ", IllegalArgumentException",
        "int key(int, int)" + INDEX + ", IllegalArgumentException",
        "int pair(int, int, int)" + INDEX + ", IllegalArgumentException",
        "int ofWord(int) throws IllegalArgumentException",
        "int count(int) throws IllegalArgumentException",
        "int openIn(int) throws IllegalArgumentException",
        "int ifTurned(int, int)" + INDEX + ", IllegalArgumentException",
        "int closest()",
        "double openShare()",
        "float meanNotch()",
        "long digest()",
    };

    private static final Checks checks = new Checks("face");

    public static void main(String[] args) throws IOException {
        Class<?> face = PairedTumblers.class;
        same("the class is public and final", Modifier.PUBLIC | Modifier.FINAL, face.getModifiers());
        same("no package", 1, face.getPackageName().isEmpty() ? 1 : 0);
        methods(face);
        others(face);
        inside(face);
        written();
        checks.end();
    }

    private static void same(String what, long due, long got) {
        checks.same(what, due, got);
    }

    private static String told(Method m) {
        String list = names(m.getParameterTypes());
        String thrown = names(m.getExceptionTypes());
        return m.getReturnType().getSimpleName() + " " + m.getName() + "(" + list + ")"
            + (thrown.isEmpty() ? "" : " throws " + thrown);
    }

    private static String names(Class<?>[] types) {
        return Arrays.stream(types).map(Class::getSimpleName).collect(Collectors.joining(", "));
    }

    private static void methods(Class<?> face) {
        Set<String> due = new TreeSet<>(Arrays.asList(METHODS));
        Set<String> publicNames = new TreeSet<>();
        for (Method m : face.getDeclaredMethods()) {
            if (!Modifier.isPrivate(m.getModifiers())) {
                same("in the face: " + told(m), 1, due.remove(told(m)) ? 1 : 0);
                same("public alone: " + told(m), Modifier.PUBLIC, m.getModifiers());
                publicNames.add(m.getName());
            }
        }
        same("missing " + due, 0, due.size());
        for (Method m : face.getDeclaredMethods()) {
            if (Modifier.isPrivate(m.getModifiers())) {
                same("a name of its own: " + told(m), 0, publicNames.contains(m.getName()) ? 1 : 0);
            }
        }
    }

    private static void others(Class<?> face) {
        Constructor<?>[] made = face.getDeclaredConstructors();
        same("constructors", 1, made.length);
        same("public constructor", Modifier.PUBLIC, made[0].getModifiers());
        same("its parameters", 0, made[0].getParameterCount());
        for (Field f : face.getDeclaredFields()) {
            if (!f.getName().equals("NONE")) {
                same("private field: " + f.getName(), 1, isPrivate(f));
            } else {
                same("NONE", Modifier.PUBLIC | Modifier.STATIC | Modifier.FINAL, f.getModifiers());
                same("NONE is an int", 1, f.getType() == int.class ? 1 : 0);
            }
            staticIsFinal(f);
        }
    }

    private static int isPrivate(Member member) {
        return Modifier.isPrivate(member.getModifiers()) ? 1 : 0;
    }

    private static void staticIsFinal(Field f) {
        if (Modifier.isStatic(f.getModifiers())) {
            same("static and final: " + f.getName(), 1, Modifier.isFinal(f.getModifiers()) ? 1 : 0);
        }
    }

    private static void inside(Class<?> face) {
        for (Class<?> c : face.getDeclaredClasses()) {
            same("static inside: " + c.getName(), 1, Modifier.isStatic(c.getModifiers()) ? 1 : 0);
            same("not public inside: " + c.getName(), 0, c.getModifiers() & (Modifier.PUBLIC | Modifier.PROTECTED));
            for (Field f : c.getDeclaredFields()) {
                staticIsFinal(f);
            }
        }
    }

    // ---- the face as the document and the source write it, with the parameters' names, in its order

    private static void written() throws IOException {
        List<String> document = Files.readAllLines(Path.of("../shared/DOC.md"));
        List<String> due = faceOf(document);
        List<String> source = new ArrayList<>();
        for (String line : Files.readAllLines(Path.of("src/main/java/PairedTumblers.java"))) {
            if (line.startsWith("    public ") || line.startsWith("    // ---- ")) {
                source.add(line.trim().replaceFirst("( \\{|;)$", ""));
            }
        }
        List<String> signatures = new ArrayList<>(source);
        signatures.removeIf(line -> line.startsWith("//"));
        checks.sameText("the face in the source", String.join("\n", due), String.join("\n", signatures));
        promised(document, due);
        saidAhead(document, source);
    }

    private static List<String> faceOf(List<String> document) {
        List<String> face = new ArrayList<>();
        int begin = document.indexOf("public final class PairedTumblers {");
        for (int i = begin + 1; !document.get(i).equals("}"); i++) {
            face.add(document.get(i).trim().replaceFirst(";$", ""));
        }
        return face;
    }

    /** Each promise begins with the signature that the face has, one promise after the other in the face's order. */
    private static void promised(List<String> document, List<String> face) {
        List<String> promises = new ArrayList<>();
        promises.add("public static final int NONE = -1");
        for (int i = 0; i < document.size(); i++) {
            if (document.get(i).startsWith("## Promise ")) {
                promises.add("public " + document.get(i + 2).split("`")[1]);
            }
        }
        checks.sameText("the promises' signatures", String.join("\n", face), String.join("\n", promises));
    }

    /** The calls between a heading in the source and the next one are those that the document names with it. */
    private static void saidAhead(List<String> document, List<String> source) {
        int said = 0;
        for (String line : document) {
            Matcher ahead = Pattern.compile("Ahead of the calls (.*) the interface says: (---- .*)\\.").matcher(line);
            if (ahead.matches()) {
                said++;
                String due = ahead.group(1).replace("`", "");
                checks.sameText("the calls behind " + ahead.group(2), due, callsBehind(source, "// " + ahead.group(2)));
            }
        }
        same("headings of the interface", 5, said);
    }

    private static String callsBehind(List<String> source, String heading) {
        List<String> names = new ArrayList<>();
        int at = source.indexOf(heading);
        for (int i = at + 1; at >= 0 && i < source.size() && source.get(i).startsWith("public "); i++) {
            names.add(source.get(i).replaceFirst("\\(.*", "").replaceFirst(".* ", ""));
        }
        return String.join(", ", names);
    }
}
