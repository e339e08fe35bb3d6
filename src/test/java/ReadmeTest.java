import java.io.IOException;
import java.nio.file.Files;
import java.nio.file.Path;
import java.util.HashMap;
import java.util.List;
import java.util.Map;
import java.util.Set;
import java.util.TreeSet;
import java.util.regex.Matcher;
import java.util.regex.Pattern;
import java.util.stream.Stream;

/** What README.md shows: each call of its examples is made, and its answer held against what is said there. */
public final class ReadmeTest {
    private static final Pattern MAKES = Pattern.compile("PatternHouse house = new PatternHouse\\(\\);");
    private static final Pattern ASKS =
        Pattern.compile("(?:(int|long) (\\w+) = )?house\\.(\\w+)\\(([^()]*)\\); +// (-?\\d+)(?:: \\S.*)?");
    private static final Pattern INT = Pattern.compile("-?\\d+");
    private static final Pattern LONG = Pattern.compile("-?(?:\\d+|0x[0-9A-F]+)L");

    private static Calls house;
    private static final Map<String, Long> VALUES = new HashMap<>();

    public static void main(String[] args) throws IOException {
        List<String> lines = Files.readAllLines(Path.of("README.md"));
        examples(lines);
        greatNumbers(String.join("\n", lines));
        testsAreNamed(lines);
        Due.finish("ReadmeTest");
    }

    private static void examples(List<String> lines) {
        boolean inside = false;
        int blocks = 0;
        int asked = 0;
        for (int k = 0; k < lines.size(); k++) {
            String line = lines.get(k);
            if (line.startsWith("```")) {
                inside = line.equals("```java");
                if (inside) blocks++;
                house = null;
                VALUES.clear();
            } else if (inside && MAKES.matcher(line).matches()) {
                house = Calls.plain();
            } else if (inside) {
                ask("README.md, line " + (k + 1) + ": " + line, line);
                asked++;
            }
        }
        Due.holds("README.md has its examples: " + asked + " calls in " + blocks, blocks >= 5 && asked >= 80);
    }

    private static void ask(String where, String line) {
        Matcher call = ASKS.matcher(line);
        boolean reads = house != null && call.matches() && Calls.names().contains(call.group(3));
        Due.holds(where + " is a call and its answer", reads);
        if (!reads) return;
        String name = call.group(3);
        String type = call.group(1);
        Due.holds(where + " has the right type", type == null || type.equals(Calls.answers(name).getName()));
        String[] words = call.group(4).isEmpty() ? new String[0] : call.group(4).split(", ");
        Class<?>[] takes = Calls.takes(name);
        Due.due(where + " has as many arguments", words.length, takes.length);
        if (words.length != takes.length) return;
        long[] args = new long[words.length];
        for (int k = 0; k < words.length; k++) {
            Due.holds(where + " takes " + words[k], fits(words[k], takes[k]));
            if (!fits(words[k], takes[k])) return;
            args[k] = value(words[k]);
        }
        long got = house.ask(name, args);
        Due.due(where, got, Long.parseLong(call.group(5)));
        if (type != null) VALUES.put(call.group(2), got);
    }

    /** Whether javac would take the word for that type, as far as README.md goes. */
    private static boolean fits(String word, Class<?> type) {
        if (type == boolean.class) return word.equals("true") || word.equals("false");
        if (type == long.class && LONG.matcher(word).matches()) return true;
        return VALUES.containsKey(word) || INT.matcher(word).matches() && Long.parseLong(word) == (int) Long.parseLong(word);
    }

    private static long value(String word) {
        if (VALUES.containsKey(word)) return VALUES.get(word);
        if (word.equals("true") || word.equals("false")) return word.equals("true") ? 1 : 0;
        return Long.decode(word.endsWith("L") ? word.substring(0, word.length() - 1) : word);
    }

    private static void greatNumbers(String text) {
        Matcher told = Pattern.compile("may be below 0 themselves: ((?:`\\w+`,?\\s)*`\\w+`)\\.").matcher(text);
        boolean found = told.find();
        Due.holds("README.md tells whose refusals are great numbers", found);
        if (!found) return;
        Set<String> names = new TreeSet<>(List.of(told.group(1).replace("`", "").split(",\\s")));
        for (String name : Calls.names()) {
            Due.holds("README.md, great numbers of " + name, names.contains(name) == (Calls.asAnswered(name, -1) != -1));
        }
        Due.holds("README.md, great numbers of calls alone: " + names, Calls.names().containsAll(names));
    }

    private static void testsAreNamed(List<String> lines) throws IOException {
        Set<String> named = new TreeSet<>();
        for (String line : lines) {
            Matcher row = Pattern.compile("\\| (\\w+Test) \\|.*").matcher(line);
            if (row.matches()) named.add(row.group(1));
        }
        Set<String> there = new TreeSet<>();
        try (Stream<Path> files = Files.list(Path.of("src/test/java"))) {
            files.map(file -> file.getFileName().toString()).filter(file -> file.endsWith("Test.java"))
                .forEach(file -> there.add(file.replace(".java", "")));
        }
        Due.holds("README.md names each test: " + named + ", there are " + there, named.equals(there));
    }
}
