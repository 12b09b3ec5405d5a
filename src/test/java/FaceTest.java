import java.io.IOException;
import java.lang.reflect.Field;
import java.lang.reflect.Method;
import java.lang.reflect.Modifier;
import java.nio.file.Files;
import java.nio.file.Path;
import java.util.ArrayList;
import java.util.Arrays;
import java.util.List;
import java.util.Set;
import java.util.TreeSet;
import java.util.regex.Matcher;
import java.util.regex.Pattern;
import java.util.stream.Collectors;

/** The class shows what the document's "The public face" has, and nothing more, under the document's headings. */
public final class FaceTest {
    private static final Check check = new Check("FaceTest");
    private static final Pattern HEADING =
            Pattern.compile("Ahead of the calls (`.*`) the interface says: (---- .*)\\.");

    public static void main(String[] args) throws IOException, ReflectiveOperationException {
        String document = Files.readString(Path.of("../shared/DOC.md"));
        List<String> source = Files.readAllLines(Path.of("src/main/java/DoorRounds.java"));
        String face = between(document, "```java\n", "```");
        List<String> told = face.lines().map(String::strip).filter(line -> line.startsWith("public ")).toList();
        constants(told.stream().filter(line -> line.contains("static")).toList());
        List<String> calls = told.stream().filter(line -> line.matches("public (int|long) \\w+\\(.*\\);")).toList();
        shown(calls);
        order(calls, source);
        headings(document, source);
        check.end();
    }

    private static String between(String text, String from, String to) {
        int begin = text.indexOf(from) + from.length();
        return text.substring(begin, text.indexOf(to, begin));
    }

    private static void constants(List<String> lines) throws ReflectiveOperationException {
        Set<String> due = new TreeSet<>();
        for (String line : lines) {
            Matcher one = Pattern.compile("(\\w+) = (-?\\d+)").matcher(line);
            while (one.find()) {
                due.add(one.group(1));
                Field field = DoorRounds.class.getDeclaredField(one.group(1));
                check.holds(field + " is a constant", Modifier.toString(field.getModifiers()).equals("public static final")
                        && field.getType() == int.class);
                check.due(one.group(1), Long.parseLong(one.group(2)), field.getInt(null));
            }
        }
        check.due("constants of the document", 6, due.size());
        Set<String> have = Arrays.stream(DoorRounds.class.getDeclaredFields())
                .filter(field -> !Modifier.isPrivate(field.getModifiers())).map(Field::getName)
                .collect(Collectors.toCollection(TreeSet::new));
        check.holds("no other field is shown: " + have, have.equals(due));
    }

    private static void shown(List<String> calls) {
        Set<String> due = new TreeSet<>();
        for (String call : calls) {
            due.add(call.replaceAll(" (\\w+)(?=[,)])", "").replace(";", ""));
        }
        check.due("calls of the document", 52, due.size());
        Set<String> have = new TreeSet<>();
        for (Method method : DoorRounds.class.getDeclaredMethods()) {
            if (!Modifier.isPrivate(method.getModifiers())) {
                String takes = Arrays.stream(method.getParameterTypes()).map(Class::getName)
                        .collect(Collectors.joining(", "));
                have.add(Modifier.toString(method.getModifiers()) + " " + method.getReturnType() + " "
                        + method.getName() + "(" + takes + ")");
            }
        }
        check.holds("the calls are the document's: " + have, have.equals(due));
    }

    private static void order(List<String> calls, List<String> source) {
        List<String> have = source.stream().filter(line -> line.matches(" {4}public (int|long) .*\\{"))
                .map(line -> line.strip().replace(" {", ";")).toList();
        check.holds("the calls stand in the document's order, their numbers named as there", have.equals(calls));
    }

    /** Each heading is followed by just the calls that the document tells behind it. */
    private static void headings(String document, List<String> source) {
        Matcher told = HEADING.matcher(document);
        int many = 0;
        while (told.find()) {
            many++;
            List<String> due = List.of(told.group(1).replace("`", "").split(", "));
            check.holds(told.group(2) + " is ahead of " + due, under(told.group(2), source).equals(due));
        }
        check.due("headings of the document", 6, many);
    }

    private static List<String> under(String heading, List<String> source) {
        List<String> names = new ArrayList<>();
        int from = source.indexOf("    // " + heading);
        for (int i = from + 1; from >= 0 && i < source.size() && !source.get(i).startsWith("    // ----"); i++) {
            Matcher call = Pattern.compile(" {4}public (?:int|long) (\\w+)\\(.*").matcher(source.get(i));
            if (call.matches()) {
                names.add(call.group(1));
            }
        }
        return names;
    }
}
