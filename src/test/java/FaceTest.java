import java.lang.reflect.Constructor;
import java.lang.reflect.Field;
import java.lang.reflect.Method;
import java.lang.reflect.Modifier;
import java.nio.file.Files;
import java.nio.file.Path;
import java.util.ArrayList;
import java.util.Arrays;
import java.util.HashSet;
import java.util.List;
import java.util.Set;
import java.util.TreeSet;

/** The face is the document's and no more, and the source keeps to what LANGUAGE.md says of it, as far as that shows. */
public final class FaceTest {
    private static final List<String> FACE = List.of("feed(int,int,int,int,int)int", "house(int)int", "fault()int",
        "count(int)int", "lesson(int,int)int", "day(int,int)int", "chain(int,int)int", "become(int,int,int)int",
        "obey(int)boolean", "undo()int", "far(int,int,int)int", "reaches(int,int)int", "slack(int)int",
        "gaps(int,int,int)int", "gap(int)int", "chance(int,int,int)long", "mean(int,int)long", "swap(int)int",
        "room(int,int)int", "limit(int,int)int", "last()int", "compare(int)int", "best()int", "bell(int)int",
        "see(int,int)int", "forget()void", "fits(int)int", "streams()int", "term(int,int,int,int)int", "on(int,int)int",
        "clash(int)int", "busiest(int)int", "idle()int", "shift(int,int)int", "harm(int,int)int", "pair(int)int",
        "pause(int,int)int", "image()void", "restore()boolean");

    public static void main(String[] args) throws Exception {
        Set<String> names = new HashSet<>();
        Set<String> face = new TreeSet<>();
        for (Method m : MarshBells.class.getDeclaredMethods()) {
            if (Modifier.isPublic(m.getModifiers())) {
                face.add(text(m));
                names.add(m.getName());
            } else {
                Check.same("private: " + m, Modifier.isPrivate(m.getModifiers()), true);
            }
        }
        Check.same("methods: " + face, face.equals(new TreeSet<>(FACE)), true);
        Check.same("final", Modifier.isFinal(MarshBells.class.getModifiers()), true);
        Check.same("constructors", MarshBells.class.getDeclaredConstructors().length, 1);
        for (Constructor<?> c : MarshBells.class.getDeclaredConstructors()) {
            Check.same("constructor", Modifier.isPublic(c.getModifiers()) && c.getParameterCount() == 0, true);
        }
        Check.same("NONE", MarshBells.NONE, -1);
        fields(MarshBells.class);
        for (Class<?> inside : MarshBells.class.getDeclaredClasses()) {
            inside(inside, names);
        }
        Check.same("classes", MarshBells.class.getDeclaredClasses().length <= 12, true);
        source();
        Check.end();
    }

    private static String text(Method m) {
        List<String> parameters = new ArrayList<>();
        Arrays.stream(m.getParameterTypes()).forEach(p -> parameters.add(p.getName()));
        return m.getName() + "(" + String.join(",", parameters) + ")" + m.getReturnType().getName();
    }

    private static void fields(Class<?> of) {
        int own = 0;
        for (Field f : of.getDeclaredFields()) {
            boolean none = of == MarshBells.class && f.getName().equals("NONE");
            Check.same("private field: " + f, Modifier.isPrivate(f.getModifiers()) != none, true);
            if (Modifier.isStatic(f.getModifiers())) {
                Check.same("final: " + f, Modifier.isFinal(f.getModifiers()), true);
            } else {
                own++;
            }
        }
        Check.same("fields of " + of, own <= 20, true);
    }

    private static void inside(Class<?> inside, Set<String> faceNames) {
        Check.same("static: " + inside, Modifier.isStatic(inside.getModifiers()), true);
        Check.same("private: " + inside, Modifier.isPrivate(inside.getModifiers()), true);
        fields(inside);
        for (Method m : inside.getDeclaredMethods()) {
            Check.same("a name of the face: " + m, faceNames.contains(m.getName()), false);
            Check.same("parameters of " + m, m.getParameterCount() <= 7, true);
        }
    }

    private static void source() throws Exception {
        String source = Files.readString(Path.of("src/main/java/MarshBells.java"));
        for (String word : List.of("catch", "try", "finally", "synchronized", "assert", "->", "::", "package", "double",
            "float", "Exact", "System.out", "nanoTime", "currentTimeMillis", "Random", "Thread", "toString", "hashCode")) {
            boolean there = source.matches("(?s).*(^|\\W)" + java.util.regex.Pattern.quote(word) + "(\\W|$).*");
            Check.same("'" + word + "' in the source", there, false);
        }
        for (String line : source.split("\n")) {
            if (line.startsWith("import")) {
                Check.same(line, line.equals("import java.util.NoSuchElementException;"), true);
            }
        }
        Check.same("signs 10, 32 to 126 alone", source.chars().allMatch(c -> c == 10 || c >= 32 && c < 127), true);
    }
}
