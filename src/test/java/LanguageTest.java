import java.io.IOException;
import java.lang.reflect.Constructor;
import java.lang.reflect.Field;
import java.lang.reflect.Method;
import java.lang.reflect.Modifier;
import java.nio.file.Files;
import java.nio.file.Path;
import java.util.ArrayList;
import java.util.Arrays;
import java.util.List;
import java.util.TreeSet;

/** The public face, and those rules of LANGUAGE.md that can be looked at from outside. */
public final class LanguageTest {
    private static final Check CHECK = new Check();
    private static final String FACE = "int sign(int) boolean end(int) int map() boolean use(int) boolean letter(int,int,int) "
        + "int push(int) int drive(int,int,int,int) int count(int) int shut(int,int,int,int) "
        + "int finer(int,int,int,int,int) int slope(int,int) int orbit(int,int,int) "
        + "int grid(int,int,int,int,int,int) int fine(int) int arrows() int next(int) int back(int) int leaves(int) "
        + "int cell(int,int) int put(int,int,boolean) int join(int,int,int) int many(int) int has(int,int) "
        + "int core(int,int) int reach(int,int,int) int trap(int) int heaps() int heap(int) int order(int,int) "
        + "int take(int,int) int change(int) int ring(int,int) int stable(int,int) int rings(int) "
        + "int turning(int,int) int box(int,int) int covers(int,int) long words(int,int) int word(int,int) "
        + "int steer(int,int,int) int plan(int) int steps(int) int safe(int,int) int sight(int,int) int see(int) "
        + "int blind() int sense(int) int homes(int,int) int row(int)";

    public static void main(String[] args) throws IOException {
        TreeSet<String> publicNames = face();
        List<Class<?>> classes = new ArrayList<>(Arrays.asList(RoundMaps.class.getDeclaredClasses()));
        for (Class<?> inside : classes) {
            CHECK.is("rule 1: static " + inside, Modifier.isStatic(inside.getModifiers()), true);
            CHECK.is("rule 1: not public " + inside, Modifier.isPublic(inside.getModifiers()), false);
        }
        classes.add(RoundMaps.class);
        CHECK.is("rule 11: at most twelve classes", classes.size() <= 12, true);
        for (Class<?> each : classes) {
            members(each, publicNames);
        }
        source(Files.readAllLines(Path.of("src/main/java/RoundMaps.java")));
        CHECK.end();
    }

    private static TreeSet<String> face() {
        TreeSet<String> got = new TreeSet<>();
        TreeSet<String> names = new TreeSet<>();
        for (Method method : RoundMaps.class.getDeclaredMethods()) {
            if (!Modifier.isPrivate(method.getModifiers())) {
                CHECK.is("rule 1: public " + method, Modifier.isPublic(method.getModifiers()), true);
                got.add(method.getReturnType() + " " + method.getName()
                    + Arrays.toString(method.getParameterTypes()).replace('[', '(').replace(']', ')').replace(", ", ","));
                names.add(method.getName());
            }
        }
        TreeSet<String> due = new TreeSet<>();
        String[] words = FACE.split(" ");
        for (int i = 0; i < words.length; i += 2) {
            due.add(words[i] + " " + words[i + 1]);
        }
        CHECK.is("the face: " + got, got.equals(due), true);
        CHECK.is("the face has 50 calls with its constructor", due.size(), 49);
        Constructor<?>[] constructors = RoundMaps.class.getDeclaredConstructors();
        CHECK.is("one constructor", constructors.length, 1);
        CHECK.is("it is public", Modifier.isPublic(constructors[0].getModifiers()), true);
        CHECK.is("the class is final", Modifier.isFinal(RoundMaps.class.getModifiers()), true);
        CHECK.is("NONE", RoundMaps.NONE, -1);
        return names;
    }

    private static void members(Class<?> each, TreeSet<String> publicNames) {
        int fields = 0;
        for (Field field : each.getDeclaredFields()) {
            boolean none = field.getName().equals("NONE");
            CHECK.is("rule 1: private " + field, Modifier.isPrivate(field.getModifiers()), !none);
            if (Modifier.isStatic(field.getModifiers())) {
                CHECK.is("rule 5: final " + field, Modifier.isFinal(field.getModifiers()), true);
            } else {
                fields++;
            }
        }
        CHECK.is("rule 11: some twenty fields in " + each, fields <= 20, true);
        for (Method method : each.getDeclaredMethods()) {
            boolean own = Modifier.isPublic(method.getModifiers());
            CHECK.is("rule 1: the name of " + method, !own && publicNames.contains(method.getName()), false);
            CHECK.is("rule 11: seven parameters of " + method, method.getParameterCount() <= 7, true);
        }
    }

    private static void source(List<String> lines) {
        String[] banned = {"->", "::", "catch", "finally", "synchronized", "assert ", "double", "float", "Exact(",
            "System.out", "Object ", "record ", "instanceof", "static {"};
        int began = 0;
        for (int i = 0; i < lines.size(); i++) {
            String line = lines.get(i);
            for (String word : banned) {
                CHECK.is("line " + (i + 1) + ": " + word, line.contains(word), false);
            }
            if (line.startsWith("import ")) {
                CHECK.is(line, line.equals("import java.util.Arrays;")
                    || line.equals("import java.util.NoSuchElementException;"), true);
            }
            if (line.matches(" {4,8}(public|private) .*\\) .*\\{")) {
                began = i;
            }
            if (line.matches(" {4,8}\\}") && began > 0) {
                CHECK.is("rule 11: short, line " + (began + 1), i - began < 60, true);
                began = 0;
            }
        }
    }
}
