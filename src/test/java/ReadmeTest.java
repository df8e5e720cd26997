import java.lang.reflect.Method;
import java.lang.reflect.Modifier;
import java.nio.file.Files;
import java.nio.file.Path;
import java.util.List;
import java.util.regex.Matcher;
import java.util.regex.Pattern;
import java.util.stream.Collectors;
import java.util.stream.Stream;

/** README.md tells of every call and every test, and what it shows is so. */
public final class ReadmeTest {
    public static void main(String[] args) throws Exception {
        String readme = Files.readString(Path.of("README.md"));
        for (Method m : MarshBells.class.getDeclaredMethods()) {
            if (Modifier.isPublic(m.getModifiers())) {
                boolean told = Pattern.compile("\\b" + m.getName() + "[`(]").matcher(readme).find();
                Check.same("README.md tells of " + m.getName(), told, true);
            }
        }
        for (String test : tests()) {
            Check.same("README.md tells of " + test, readme.contains("| `" + test + "` |"), true);
        }
        calls(readme);
        house(readme);
        Check.end();
    }

    private static List<String> tests() throws Exception {
        try (Stream<Path> files = Files.list(Path.of("src/test/java"))) {
            return files.map(f -> f.getFileName().toString()).filter(n -> n.endsWith("Test.java"))
                .map(n -> n.substring(0, n.length() - 5)).collect(Collectors.toList());
        }
    }

    /** The calls that it shows, with their numbers as they stand there. */
    private static void calls(String readme) {
        MarshBells bells = new MarshBells();
        Matcher feeds = Pattern.compile("bells\\.feed\\((0x.*?)\\);").matcher(readme);
        while (feeds.find()) {
            String[] n = feeds.group(1).split(", ");
            int[] five = new int[5];
            for (int i = 0; i < 5; i++) five[i] = Integer.parseUnsignedInt(n[i].substring(2), 16);
            bells.feed(five[0], five[1], five[2], five[3], five[4]);
        }
        Check.same("its tape", bells.count(8), 40);
        Check.same("its house", bells.house(22), 0);
        Check.same("its lesson is late by", bells.day(0, 2), 9);
    }

    private static void house(String readme) {
        StringBuilder text = new StringBuilder();
        Matcher lines = Pattern.compile("(?m)^    (.*;)$").matcher(readme);
        while (lines.find()) {
            String line = lines.group(1);
            if (line.matches("(lesson|walk|rule) .*")) text.append(line).append('\n');
        }
        MarshBells bells = Check.told(text.toString());
        Check.same("its lessons", bells.count(0), 3);
        Check.same("its rules", bells.count(1), 1);
    }
}
