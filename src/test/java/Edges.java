import java.io.IOException;
import java.lang.reflect.InvocationTargetException;
import java.lang.reflect.Method;
import java.nio.file.Files;
import java.nio.file.Path;
import java.util.ArrayList;
import java.util.Arrays;
import java.util.Comparator;
import java.util.List;
import java.util.Map;
import java.util.TreeMap;
import java.util.regex.Matcher;
import java.util.regex.Pattern;

/**
 * Sentences of the document, each with calls at its edges. A call is written as in Java, "row(0, 40)" (max and min are
 * the greatest and the least int), and is made on an object of its own, set up by the script that from() was told.
 * Of two objects set up alike only one gets the call that should change nothing: all that can be asked of both must be
 * alike behind it.
 */
final class Edges {
    static final int BAD = DoorRounds.BAD, FULL = DoorRounds.FULL, FINDING = DoorRounds.FINDING;
    static final int STATE = DoorRounds.STATE, SPENT = DoorRounds.SPENT, NONE = DoorRounds.NONE;
    static final int NOTHING = 1, BEYOND = 2, UNLIKE = 3, NOUGHT = 4, SIZE = 5;
    /** The sentences of "Terms" are told under this number, those of the promises under theirs. */
    static final int TERMS = 0;
    static final int PROMISES = 53;

    /** All KINDS, with something in every place that a refused call could change. */
    static final String[] RICH = {
        "square: d20 s0:+1:50 s5:-2:40 f9:+3:30 y12:+4:90 n3:+2:20:3 o16:+3:70:4 p18:-1:60:2",
        "row 1: 7 -3 12", "row 2:", "row 5: 1 2 3 4 5 6 7 8 9 10 11 12 13 14 15 16 17 18 19 20", "text 1: d12s3",
        "note(1, 0, 1)", "note(2, 4, 7)", "shut(13)", "keep(1)", "go(3)", "shut(2)", "keep(2)", "go(1)",
        "dearest(5, 3)", "tear(0)", "at(1, 2)",
    };

    private static final Pattern CALL = Pattern.compile("(\\w+)\\(([^)]*)\\)");
    private static final Pattern ROW = Pattern.compile("row (\\d):(.*)");
    private static final Pattern TEXT = Pattern.compile("text (\\d): (.*)", Pattern.DOTALL);
    /** Where findings stand in all that is asked of an object. */
    private static final int LATEST = 4, COUNTS = 4;

    private final Check check;
    private final Map<Integer, List<String>> quoted = new TreeMap<>();
    private String[] script = {};
    private String sentence = "";
    private int answers = 1;

    Edges(Check check) {
        this.check = check;
    }

    /** What the next calls are for: a sentence as the document has it. */
    void says(int promise, String quote) {
        closeSentence();
        sentence = (promise == TERMS ? "Terms" : "Promise " + promise) + ", \"" + quote + "\"";
        answers = 0;
        quoted.computeIfAbsent(promise, none -> new ArrayList<>()).add(quote);
    }

    private void closeSentence() {
        check.holds(sentence + " has a test of its own", answers > 0);
    }

    void from(String... newScript) {
        script = newScript;
    }

    void fromRichAnd(String... more) {
        script = Arrays.copyOf(RICH, RICH.length + more.length);
        System.arraycopy(more, 0, script, RICH.length, more.length);
    }

    void number(String what, long due, long got) {
        due(what, due, got);
    }

    /** The answer alone. */
    void answers(String call, long due) {
        due(call, due, made(call));
    }

    /** The answer, and what asked() tells behind it. */
    void tells(String call, long due, long dueAsked) {
        DoorRounds x = set();
        due(call, due, call(x, call));
        due(call + ", asked()", dueAsked, x.asked());
    }

    /** Calls on one object, each with its answer behind it. */
    void inTurn(Object... callsAndAnswers) {
        DoorRounds x = set();
        for (int i = 0; i + 1 < callsAndAnswers.length; i += 2) {
            String call = (String) callsAndAnswers[i];
            due(call, ((Number) callsAndAnswers[i + 1]).longValue(), call(x, call));
        }
    }

    /** What asked() tells is as it was; the call may do whatever else. */
    void toldStays(String call, long dueAsked) {
        DoorRounds x = set();
        call(x, call);
        due("asked() behind " + call, dueAsked, x.asked());
    }

    /** It looks and leaves all as it was. */
    void looks(String call, long due) {
        unchanged(call, due, 0, false);
    }

    /** It looks and leaves all as it was but asked(). */
    void looksAndTells(String call, long due, long dueAsked) {
        tells(call, due, dueAsked);
        unchanged(call, due, 0, true);
    }

    /** BAD, FULL, STATE, SPENT; and NONE, which changes nothing either. */
    void refuses(String call, int due) {
        unchanged(call, due, 0, false);
    }

    void finds(String call, int finding) {
        unchanged(call, FINDING, finding, false);
    }

    private void unchanged(String call, long due, int finding, boolean mayTell) {
        DoorRounds with = set();
        due(call, due, call(with, call));
        long[] want = all(set());
        long[] have = all(with);
        if (finding != 0) {
            want[LATEST] = finding;
            want[COUNTS + finding]++;
        }
        if (mayTell) {
            want[1] = have[1];
        }
        answers++;
        check.holds(sentence + ": " + call + " changes nothing else, " + Arrays.toString(have)
                + " is " + Arrays.toString(want), Arrays.equals(want, have));
    }

    /** All that can be asked of an object, what is kept and what comes of it too; it is spent by this. */
    private static long[] all(DoorRounds x) {
        List<Long> asked = new ArrayList<>(List.of(x.digest(), (long) x.asked(), x.upper(), x.lower()));
        asked.add((long) x.finding());
        for (int f = 1; f <= 5; f++) {
            asked.add((long) x.findings(f));
        }
        goneOn(x, asked);
        for (int k = 0; k < 3; k++) {
            asked.add((long) x.on(k));
            goneOn(x, asked);
        }
        return asked.stream().mapToLong(v -> v).toArray();
    }

    private static void goneOn(DoorRounds x, List<Long> asked) {
        asked.add(x.digest());
        asked.add((long) x.go(5));
        asked.add(x.digest());
    }

    private void due(String call, long due, long got) {
        answers++;
        check.due(sentence + ": " + call, due, got);
    }

    private long made(String call) {
        return call(set(), call);
    }

    private DoorRounds set() {
        DoorRounds x = new DoorRounds();
        for (String line : script) {
            setUp(x, line);
        }
        return x;
    }

    private static void setUp(DoorRounds x, String line) {
        Matcher row = ROW.matcher(line);
        Matcher text = TEXT.matcher(line);
        if (line.startsWith("square: ")) {
            Check.write(x, 3, line.substring(8));
            mustBe(x.square(3) >= 0, line);
        } else if (row.matches()) {
            String[] words = row.group(2).isBlank() ? new String[0] : row.group(2).trim().split(" +");
            Check.fill(x, Integer.parseInt(row.group(1)), Arrays.stream(words).mapToInt(Edges::number).toArray());
        } else if (text.matches()) {
            Check.write(x, Integer.parseInt(text.group(1)), text.group(2));
        } else {
            call(x, line);
        }
    }

    private static void mustBe(boolean right, String line) {
        if (!right) {
            throw new IllegalArgumentException(line);
        }
    }

    private static int number(String word) {
        return switch (word) {
            case "max" -> Integer.MAX_VALUE;
            case "min" -> Integer.MIN_VALUE;
            default -> Integer.parseInt(word);
        };
    }

    private static long call(DoorRounds x, String call) {
        Matcher parts = CALL.matcher(call);
        mustBe(parts.matches(), call);
        String[] words = parts.group(2).isBlank() ? new String[0] : parts.group(2).trim().split(", *");
        Class<?>[] types = new Class<?>[words.length];
        Object[] numbers = new Object[words.length];
        for (int i = 0; i < words.length; i++) {
            types[i] = int.class;
            numbers[i] = number(words[i]);
        }
        try {
            Method method = DoorRounds.class.getMethod(parts.group(1), types);
            return ((Number) method.invoke(x, numbers)).longValue();
        } catch (NoSuchMethodException | IllegalAccessException | InvocationTargetException e) {
            throw new IllegalStateException(call, e);
        }
    }

    /** That the sentences are the document's, and that none of its own is left out. */
    void end(Path document) throws IOException {
        closeSentence();
        if (!Files.exists(document)) {
            System.out.println("no document at " + document + ": sentences are not compared with it");
            return;
        }
        String text = Files.readString(document);
        compare(TERMS, between(text, "## Terms", "Ahead of the calls `row`").replaceAll("======== \\d|```(text)?", " "));
        for (int promise = 1; promise <= PROMISES; promise++) {
            String part = between(text, "## Promise " + promise + ": ", "\n## ");
            compare(promise, part.substring(part.indexOf('`')).replaceAll("`[^`]*`:", " "));
        }
    }

    private static String between(String text, String from, String to) {
        int start = text.indexOf(from) + from.length();
        int end = text.indexOf(to, start);
        return text.substring(start, end < 0 ? text.length() : end);
    }

    private void compare(int promise, String part) {
        List<String> quotes = new ArrayList<>(quoted.getOrDefault(promise, List.of()));
        quotes.sort(Comparator.comparing(String::length).reversed());
        String whole = part.replaceAll("\\s+", " ");
        String left = whole;
        for (String quote : quotes) {
            check.holds("promise " + promise + " says \"" + quote + "\"", whole.contains(quote));
            left = left.replace(quote, " ");
        }
        check.holds("every sentence of promise " + promise + " is tested, left is \"" + left + "\"",
                left.matches("[\\s.;:,()]*"));
    }
}
