import java.io.IOException;
import java.lang.reflect.Constructor;
import java.lang.reflect.Field;
import java.lang.reflect.Method;
import java.lang.reflect.Modifier;
import java.nio.file.Files;
import java.nio.file.Path;
import java.util.Arrays;
import java.util.HashSet;
import java.util.List;
import java.util.Set;
import java.util.TreeSet;
import java.util.regex.Matcher;
import java.util.regex.Pattern;

/** The rules of LANGUAGE.md that can be seen in the source or in the class, and the document's face. */
public final class RulesTest {
    private static final Check check = new Check("RulesTest");
    private static final String FACE = "row2 lay3 at2 tear1 copy5 mean1 text2 put3 fault1 square1 about2 mark2 shut1 open1 "
            + "go1 doors1 who1 wants1 where2 plainly2 again0 keep1 on1 beside2 comes2 meets3 never3 walk2 round2 best3 "
            + "errands4 agree3 joins2 quiet0 busy0 note3 back1 steps1 kinds1 rent3 dearest2 mends2 worst1 image1 gone1 "
            + "asked0 upper0 lower0 count1 finding0 findings1 digest0";
    private static final Set<String> CONSTANTS = Set.of("BAD", "FULL", "FINDING", "STATE", "SPENT", "NONE");

    public static void main(String[] args) throws IOException {
        face();
        nested();
        source(Files.readString(Path.of("src/main/java/DoorRounds.java")));
        check.end();
    }

    private static void face() {
        Set<String> have = new TreeSet<>();
        for (Method method : DoorRounds.class.getDeclaredMethods()) {
            if (!Modifier.isPrivate(method.getModifiers())) {
                boolean isLong = Set.of("upper", "lower", "digest").contains(method.getName());
                check.holds(method + " is public and answers as told", Modifier.isPublic(method.getModifiers())
                        && !Modifier.isStatic(method.getModifiers())
                        && method.getReturnType() == (isLong ? long.class : int.class));
                check.holds(method + " takes ints", Arrays.stream(method.getParameterTypes()).allMatch(t -> t == int.class));
                have.add(method.getName() + method.getParameterCount());
            }
        }
        check.holds("the face is the document's: " + have, have.equals(new TreeSet<>(List.of(FACE.split(" ")))));
        for (Field field : DoorRounds.class.getDeclaredFields()) {
            check.holds(field + " is private or a constant of the document",
                    Modifier.isPrivate(field.getModifiers()) || CONSTANTS.contains(field.getName()));
        }
        Constructor<?>[] made = DoorRounds.class.getDeclaredConstructors();
        check.holds("one constructor, public, of nothing", made.length == 1
                && Modifier.isPublic(made[0].getModifiers()) && made[0].getParameterCount() == 0);
        check.holds("the class is public and final", Modifier.isPublic(DoorRounds.class.getModifiers())
                && Modifier.isFinal(DoorRounds.class.getModifiers()));
    }

    private static void nested() {
        Set<String> shown = new HashSet<>();
        for (String call : FACE.split(" ")) {
            shown.add(call.substring(0, call.length() - 1));
        }
        Class<?>[] inside = DoorRounds.class.getDeclaredClasses();
        check.holds("at most twelve classes", inside.length + 1 <= 12);
        for (Class<?> one : inside) {
            check.holds(one + " is static and not shown", Modifier.isStatic(one.getModifiers())
                    && !Modifier.isPublic(one.getModifiers()) && !Modifier.isProtected(one.getModifiers()));
            sizes(one, shown);
        }
        sizes(DoorRounds.class, shown);
    }

    private static void sizes(Class<?> one, Set<String> shown) {
        long held = Arrays.stream(one.getDeclaredFields()).filter(f -> !Modifier.isStatic(f.getModifiers())).count();
        check.holds(one + " has at most twenty fields", held <= 20);
        for (Field field : one.getDeclaredFields()) {
            check.holds(field + ": a static one is final",
                    !Modifier.isStatic(field.getModifiers()) || Modifier.isFinal(field.getModifiers()));
        }
        for (Method method : one.getDeclaredMethods()) {
            check.holds(method + " takes at most seven", method.getParameterCount() <= 7);
            check.holds(method + " does not bear the name of a public one",
                    Modifier.isPublic(method.getModifiers()) || !shown.contains(method.getName()));
        }
    }

    private static void source(String text) {
        String code = text.replaceAll("(?s)/\\*.*?\\*/", "").replaceAll("//[^\n]*", "");
        String[] banned = {
            "\\b(throw|throws|try|catch|synchronized|assert|volatile|transient|native|package)\\b", "->", "::",
            "\\bstatic\\s*\\{", "\\w*Exact\\b", "\\b(double|float|Object|Thread|Random|Class|Iterator)\\b", "\\.equals\\(",
            "\\bhashCode\\b", "\\btoString\\b", "\\bSystem\\.(?!arraycopy\\b)", "\\bfor\\s*\\(\\s*;\\s*;", "while\\s*\\(true", "M(AX|IN)_VALUE",
            "\\bjava\\.(?!util\\.Arrays;)", "\"",
        };
        for (String ban : banned) {
            Matcher matcher = Pattern.compile(ban).matcher(code);
            check.holds("the source is free of " + ban, !matcher.find());
        }
        check.holds("the source is plain", text.chars().allMatch(c -> c == '\n' || c >= 32 && c < 127));
        methodLengths(text.split("\n"));
    }

    private static void methodLengths(String[] lines) {
        int from = 0;
        for (int i = 0; i < lines.length; i++) {
            if (lines[i].matches("( {4}| {8})[\\w\\[\\]<> ]+\\([\\w\\[\\], ]*\\) \\{")) {
                from = i;
            }
            if (lines[i].matches("( {4}| {8})\\}")) {
                check.holds("the method at line " + (from + 1) + " is short", i - from < 60 || lines[from].contains("class"));
            }
        }
    }
}
