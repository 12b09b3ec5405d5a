import java.io.IOException;
import java.nio.file.Files;
import java.nio.file.Path;
import java.util.ArrayList;
import java.util.Arrays;
import java.util.List;
import java.util.Set;
import java.util.TreeSet;
import java.util.regex.MatchResult;
import java.util.regex.Matcher;
import java.util.regex.Pattern;
import java.util.stream.Collectors;
import java.util.stream.Stream;

/** That README.md is right: what its run answers, which calls and which tests it lists. */
public final class ReadmeTest {
    private static final Check check = new Check("ReadmeTest");
    private static final Pattern WRITE = Pattern.compile("write\\(x, (\\d), \"(.*)\"\\);");
    private static final Pattern CALL = Pattern.compile("x\\.(\\w+)\\((.*)\\); +// (-?\\w+): .*");

    public static void main(String[] args) throws IOException, ReflectiveOperationException {
        String readme = Files.readString(Path.of("README.md"));
        run(block(readme, "DoorRounds x = new DoorRounds();"));
        calls(readme);
        tests(readme);
        check.end();
    }

    private static List<String> block(String readme, String first) {
        int from = readme.indexOf("```java\n" + first);
        check.holds("README.md has a run", from >= 0);
        if (from < 0) {
            return List.of();
        }
        int begin = from + "```java\n".length() + first.length() + 1;
        return List.of(readme.substring(begin, readme.indexOf("```", begin)).split("\n"));
    }

    private static void run(List<String> lines) throws ReflectiveOperationException {
        DoorRounds x = new DoorRounds();
        for (String line : lines) {
            Matcher write = WRITE.matcher(line);
            Matcher call = CALL.matcher(line);
            if (write.matches()) {
                Check.write(x, Integer.parseInt(write.group(1)), write.group(2));
            } else if (call.matches()) {
                check.due("README.md: " + line, number(call.group(3)), answer(x, call.group(1), call.group(2)));
            } else {
                check.holds("README.md: \"" + line + "\" is a call with its answer", false);
            }
        }
    }

    private static long number(String word) throws ReflectiveOperationException {
        return word.matches("-?\\d+") ? Long.parseLong(word) : DoorRounds.class.getField(word).getInt(null);
    }

    private static long answer(DoorRounds x, String name, String list) throws ReflectiveOperationException {
        String[] words = list.isEmpty() ? new String[0] : list.split(", ");
        Class<?>[] types = new Class<?>[words.length];
        Object[] values = new Object[words.length];
        for (int i = 0; i < words.length; i++) {
            types[i] = int.class;
            values[i] = Integer.parseInt(words[i]);
        }
        return ((Number) DoorRounds.class.getMethod(name, types).invoke(x, values)).longValue();
    }

    private static void calls(String readme) {
        int from = Math.max(0, readme.indexOf("| what for | calls |"));
        String table = readme.substring(from, readme.indexOf("## How to test it"));
        List<String> listed = new ArrayList<>(Pattern.compile("`(\\w+)`").matcher(table).results()
                .map(found -> found.group(1)).toList());
        listed.sort(null);
        List<String> due = Arrays.stream(DoorRounds.class.getMethods())
                .filter(method -> method.getDeclaringClass() == DoorRounds.class)
                .map(method -> method.getName()).sorted().toList();
        check.holds("README.md lists every call once: " + listed, listed.equals(due));
    }

    private static void tests(String readme) throws IOException {
        Set<String> listed = Pattern.compile("(?m)^\\| (\\w+Test) \\|").matcher(readme).results()
                .map((MatchResult found) -> found.group(1)).collect(Collectors.toCollection(TreeSet::new));
        try (Stream<Path> files = Files.list(Path.of("src/test/java"))) {
            Set<String> there = files.map(file -> file.getFileName().toString()).filter(name -> name.endsWith("Test.java"))
                    .map(name -> name.substring(0, name.length() - ".java".length()))
                    .collect(Collectors.toCollection(TreeSet::new));
            check.holds("README.md lists every test: " + there, listed.equals(there));
        }
    }
}
