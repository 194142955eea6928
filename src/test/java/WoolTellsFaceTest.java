import java.io.IOException;
import java.lang.reflect.Constructor;
import java.lang.reflect.Field;
import java.lang.reflect.Member;
import java.lang.reflect.Method;
import java.lang.reflect.Modifier;
import java.nio.file.Files;
import java.nio.file.Path;
import java.util.Arrays;
import java.util.List;
import java.util.Set;
import java.util.TreeSet;
import java.util.regex.Pattern;

/** The face of the document, and what LANGUAGE.md forbids as far as it can be seen from outside. */
public final class WoolTellsFaceTest {
    private static final Path SOURCE = Path.of("src/main/java/WoolTells.java");
    private static final List<String> METHODS = List.of("row(int,int,int)", "set(int,int,int)",
            "copy(int,int,int,int,int)", "drop(int)", "feed(long,int)", "valley()", "fault()", "knit(int,int)",
            "unpick(int,int)", "moths(int)", "join(int,int)", "undo()", "wool(int,int)", "saying(int,int)",
            "known(int)", "worlds(int)", "out(int,int)", "firstFalse()", "wear(int,int)", "bids(int,int,int)",
            "image(int)", "restore(int)", "kind(int)", "as(int,int)", "ask(int,int)", "trace(int)", "count(int)",
            "status()");
    private static final List<String> FORBIDDEN = List.of("\\bthrow\\b", "\\bthrows\\b", "\\btry\\b", "\\bcatch\\b",
            "\\bsynchronized\\b", "\\bassert\\b", "->", "::", "\\bimport\\b", "^package\\b", "\\binstanceof\\b",
            "\\bstatic\\s*\\{", "\\bvar\\b", "[^\\x00-\\x7f]", "\\bprotected\\b", "\\bDouble\\b", "Exact\\b");
    private static final int MOST_CLASSES = 12, MOST_FIELDS = 20, MOST_PARAMETERS = 7, MOST_LINES = 60;

    private static final Check CHECK = new Check("WoolTellsFaceTest");

    private WoolTellsFaceTest() {
    }

    public static void main(String[] args) throws IOException {
        checkFace();
        checkClasses();
        checkSource(Files.readString(SOURCE));
        CHECK.close();
    }

    private static void checkFace() {
        Class<?> face = WoolTells.class;
        CHECK.dueTrue("public and final", Modifier.isPublic(face.getModifiers()) && Modifier.isFinal(face.getModifiers()));
        Set<String> methods = new TreeSet<>();
        Set<String> publicNames = new TreeSet<>();
        for (Method m : face.getDeclaredMethods()) {
            if (!Modifier.isPrivate(m.getModifiers())) {
                CHECK.dueTrue(m + " public, of an object, an int",
                        m.getModifiers() == Modifier.PUBLIC && m.getReturnType() == int.class);
                methods.add(m.getName() + Arrays.toString(m.getParameterTypes()).replaceAll(" ", "")
                        .replace('[', '(').replace(']', ')'));
                publicNames.add(m.getName());
            }
        }
        CHECK.dueTrue("the methods " + methods, methods.equals(new TreeSet<>(METHODS)));
        for (Class<?> c : classes()) {
            for (Method m : c.getDeclaredMethods()) {
                boolean isPublic = c == face && Modifier.isPublic(m.getModifiers());
                CHECK.dueTrue(m + " not named as a public one", isPublic || !publicNames.contains(m.getName()));
            }
        }
        Set<String> constants = new TreeSet<>();
        for (Field f : face.getDeclaredFields()) {
            if (!Modifier.isPrivate(f.getModifiers())) {
                constants.add(f.getName());
                int all = Modifier.PUBLIC | Modifier.STATIC | Modifier.FINAL;
                CHECK.dueTrue(f + " a constant", f.getModifiers() == all && f.getType() == int.class);
            }
        }
        CHECK.dueTrue("the constants " + constants, constants.equals(Set.of("NONE", "BAD", "STATE", "FULL")));
        Constructor<?>[] constructors = face.getDeclaredConstructors();
        CHECK.dueTrue("one public constructor", constructors.length == 1
                && constructors[0].getModifiers() == Modifier.PUBLIC && constructors[0].getParameterCount() == 0);
    }

    private static List<Class<?>> classes() {
        List<Class<?>> classes = new java.util.ArrayList<>(List.of(WoolTells.class.getDeclaredClasses()));
        classes.add(WoolTells.class);
        return classes;
    }

    private static void checkClasses() {
        CHECK.dueTrue("at most some twelve classes", classes().size() <= MOST_CLASSES);
        for (Class<?> c : classes()) {
            CHECK.dueTrue(c + " static", c == WoolTells.class || Modifier.isStatic(c.getModifiers()));
            CHECK.dueTrue(c + " not public", c == WoolTells.class || !Modifier.isPublic(c.getModifiers()));
            CHECK.dueTrue(c + " without classes of its own",
                    c == WoolTells.class || c.getDeclaredClasses().length == 0);
            long fields = Arrays.stream(c.getDeclaredFields()).filter(f -> !isStatic(f)).count();
            CHECK.dueTrue(c + " of at most some twenty fields", fields <= MOST_FIELDS);
            for (Field f : c.getDeclaredFields()) {
                CHECK.dueTrue(f + " final, if static", !isStatic(f) || Modifier.isFinal(f.getModifiers()));
            }
            for (Method m : c.getDeclaredMethods()) {
                CHECK.dueTrue(m + " of at most seven parameters", m.getParameterCount() <= MOST_PARAMETERS);
            }
        }
    }

    private static boolean isStatic(Member member) {
        return Modifier.isStatic(member.getModifiers());
    }

    private static void checkSource(String source) {
        String code = source.replaceAll("(?s)/\\*.*?\\*/", "").replaceAll("//[^\n]*", "");
        for (String forbidden : FORBIDDEN) {
            boolean stands = Pattern.compile(forbidden, Pattern.MULTILINE).matcher(code).find();
            CHECK.dueTrue("no <" + forbidden + "> in the source", !stands);
        }
        int begin = 0;
        String[] lines = source.split("\n");
        for (int i = 0; i < lines.length; i++) {
            if (lines[i].matches(" {4}( {4})?(public|private).*\\{")) {
                begin = i;
            }
            if (lines[i].matches(" {4}( {4})?\\}") && !lines[begin].contains(" class ")) {
                CHECK.dueTrue("line " + (begin + 1) + ": a short method", i - begin < MOST_LINES);
            }
        }
    }
}
