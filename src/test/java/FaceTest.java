import java.io.IOException;
import java.lang.reflect.Constructor;
import java.lang.reflect.Field;
import java.lang.reflect.Method;
import java.lang.reflect.Modifier;
import java.nio.file.Files;
import java.nio.file.Path;
import java.util.ArrayList;
import java.util.HashSet;
import java.util.List;
import java.util.Set;
import java.util.TreeSet;

/** The face of the document and no other, and the rules of LANGUAGE.md that can be read off the source. */
public final class FaceTest {
    private static final String SOURCE = "src/main/java/ConferenceBridges.java";
    private static final String[] METHODS = {
        "int addBridge(int, int, boolean)", "int join(int, int)", "int leave(int)", "int move(int, int)",
        "int setLevel(int, int)", "int setMuted(int, boolean)", "int setSelection(int, int, int, int)",
        "int setFloor(boolean, int, int, int)", "int request(int, int)", "int giveUp(int)", "int tick(int)",
        "int undo()", "int type(int)", "int clearText()", "int textFault()", "int run()", "int count(int)",
        "int property(int, int)", "int loudnessBits(int)", "int mixBits(int)", "int mix(int)",
        "int hears(int, int)", "int stream(int, int, int, int)", "int distance(int, int)", "int waiting(int)",
        "int foretell(int, int)", "int event(int, int)", "long digest()"};
    private static final Set<String> CONSTANTS =
            Set.of("NONE", "BAD_INDEX", "BAD_VALUE", "BAD_STATE", "FULL", "WRONG_KIND");
    /** What LANGUAGE.md rules out, or the class has no need of. */
    private static final String[] FORBIDDEN = {"import ", "package ", "->", "::", "try ", "catch", "finally",
        "throw ", "synchronized", "assert ", "Float.", "Double.", "Math.", "System.out", "System.exit", "var ",
        "static {", "Exact(", "instanceof", "double "};

    private static int wrong = 0;

    public static void main(String[] args) throws IOException {
        Class<?> face = ConferenceBridges.class;
        due("the class is public and final",
                Modifier.isPublic(face.getModifiers()) && Modifier.isFinal(face.getModifiers()));
        constructors(face);
        methods(face);
        fields(face);
        nested(face);
        source();
        System.out.println(wrong == 0 ? "all is as due" : wrong + " things are not as due");
        if (wrong != 0) {
            System.exit(1);
        }
    }

    private static void due(String what, boolean holds) {
        if (!holds) {
            wrong++;
            System.out.println("not so: " + what);
        }
    }

    private static void constructors(Class<?> face) {
        Constructor<?>[] all = face.getDeclaredConstructors();
        due("there is one constructor, public, without parameters",
                all.length == 1 && all[0].getParameterCount() == 0 && Modifier.isPublic(all[0].getModifiers()));
    }

    private static void methods(Class<?> face) {
        Set<String> open = new TreeSet<>();
        Set<String> openNames = new HashSet<>();
        for (Method m : face.getDeclaredMethods()) {
            if (!Modifier.isPrivate(m.getModifiers())) {
                due(m + " is public and not static",
                        Modifier.isPublic(m.getModifiers()) && !Modifier.isStatic(m.getModifiers()));
                open.add(shape(m));
                openNames.add(m.getName());
            }
        }
        due("the methods are those of the document: " + open, open.equals(new TreeSet<>(List.of(METHODS))));
        for (Class<?> c : everyClass(face)) {
            for (Method m : c.getDeclaredMethods()) {
                due(m + " bears no name of the face", Modifier.isPublic(m.getModifiers()) || !openNames.contains(m.getName()));
                due(m + " has at most seven parameters", m.getParameterCount() <= 7);
            }
        }
    }

    private static String shape(Method m) {
        StringBuilder s = new StringBuilder(m.getReturnType().getName()).append(' ').append(m.getName()).append('(');
        String gap = "";
        for (Class<?> p : m.getParameterTypes()) {
            s.append(gap).append(p.getName());
            gap = ", ";
        }
        return s.append(')').toString();
    }

    private static void fields(Class<?> face) {
        Set<String> open = new HashSet<>();
        for (Field f : face.getDeclaredFields()) {
            if (!Modifier.isPrivate(f.getModifiers())) {
                int m = f.getModifiers();
                due(f + " is a constant", Modifier.isPublic(m) && Modifier.isStatic(m) && Modifier.isFinal(m)
                        && f.getType() == int.class);
                open.add(f.getName());
            }
        }
        due("the constants are those of the document: " + open, open.equals(CONSTANTS));
        for (Class<?> c : everyClass(face)) {
            int own = 0;
            for (Field f : c.getDeclaredFields()) {
                if (Modifier.isStatic(f.getModifiers())) {
                    due(f + " is a final int", Modifier.isFinal(f.getModifiers()) && f.getType() == int.class);
                } else {
                    own++;
                }
            }
            due(c + " has at most twenty fields", own <= 20);
        }
    }

    private static List<Class<?>> everyClass(Class<?> face) {
        List<Class<?>> all = new ArrayList<>(List.of(face.getDeclaredClasses()));
        all.add(face);
        return all;
    }

    private static void nested(Class<?> face) {
        due("at most twelve classes", everyClass(face).size() <= 12);
        for (Class<?> c : face.getDeclaredClasses()) {
            int m = c.getModifiers();
            due(c + " is static and not open", Modifier.isStatic(m) && !Modifier.isPublic(m) && !Modifier.isProtected(m));
            due(c + " has no class in it", c.getDeclaredClasses().length == 0);
        }
    }

    private static void source() throws IOException {
        boolean comment = false;
        int lineNumber = 0;
        for (String line : Files.readAllLines(Path.of(SOURCE))) {
            lineNumber++;
            comment = comment || line.contains("/**");
            String code = comment ? "" : line.contains("//") ? line.substring(0, line.indexOf("//")) : line;
            comment = comment && !line.contains("*/");
            for (String word : FORBIDDEN) {
                due("line " + lineNumber + " is without '" + word + "'", !code.contains(word));
            }
            due("line " + lineNumber + " is plain ASCII", line.chars().allMatch(c -> c >= 32 && c < 127));
        }
    }
}
