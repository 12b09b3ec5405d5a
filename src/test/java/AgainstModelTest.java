import java.lang.reflect.Method;
import java.util.ArrayList;
import java.util.Arrays;
import java.util.List;

/** Long runs of calls, drawn by a fixed rule, on the program and on the Model: every answer must be alike. */
public final class AgainstModelTest {
    /** Each call with what its numbers are, and how often it is drawn. */
    private static final String[] CALLS = {
        "row r size 2", "lay r place value 3", "at r place 2", "tear r 1", "copy r place r place size 3", "mean r 2",
        "text t length 1", "put t byte sign 3", "fault t 3", "square t 1", "about s what 2", "mark s kind 6",
        "shut d 3", "open d 3", "go weeks 6", "doors r 1", "who d 2", "wants s 4", "where s weeks 3",
        "plainly s far 4", "again 1", "keep k 2", "on k 2", "beside s s 2", "comes s d 2", "meets s s d 4",
        "never s s d 4", "walk d d 2", "round d set 4", "best d set look 3", "errands d set short r 1",
        "agree d d look 2", "joins d step 3", "quiet 1", "busy 1", "note noted s d 5", "back few 1", "steps s 3",
        "kinds s 3", "rent rents s look 2", "dearest rents look 2", "mends d look 3", "worst look 1", "image r 2",
        "gone r 3", "count what 2", "findings what 1", "finding 1", "upper 1", "lower 1", "asked 1",
    };

    private final Check check = new Check("AgainstModelTest");
    private final List<String[]> calls = new ArrayList<>();
    private long seed;
    private DoorRounds program;
    private Model model;
    private int doors;
    private int shops;
    private final List<String> told = new ArrayList<>();

    public static void main(String[] args) throws ReflectiveOperationException {
        new AgainstModelTest().all();
    }

    private void all() throws ReflectiveOperationException {
        for (String line : CALLS) {
            String[] words = line.split(" ");
            for (int i = 0; i < Integer.parseInt(words[words.length - 1]); i++) {
                calls.add(Arrays.copyOf(words, words.length - 1));
            }
        }
        for (int run = 0; run < 400; run++) {
            seed = 7919L * run + 13;
            if (!run()) {
                System.out.println("run " + run + ": " + told);
                break;
            }
        }
        faults();
        check.end();
    }

    private int draw(int below) {
        seed = seed * 6364136223846793005L + 1442695040888963407L;
        return (int) ((seed >>> 33) % below);
    }

    private int among(int least, int most) {
        return least + draw(most - least + 1);
    }

    private boolean run() throws ReflectiveOperationException {
        program = new DoorRounds();
        model = new Model();
        told.clear();
        doors = 0;
        shops = 0;
        boolean right = true;
        if (draw(10) > 0) {
            right = writeSquare(draw(4));
        }
        for (int i = 0; i < 300 && right; i++) {
            int chance = draw(100);
            if (chance == 0) {
                right = writeSquare(draw(4));
            } else if (chance < 4) {
                right = writeRents();
            } else {
                right = drawnCall();
            }
        }
        return right;
    }

    private boolean drawnCall() throws ReflectiveOperationException {
        String[] words = calls.get(draw(calls.size()));
        int[] numbers = new int[words.length - 1];
        for (int i = 0; i < numbers.length; i++) {
            numbers[i] = drawn(words[i + 1]);
        }
        return call(words[0], numbers);
    }

    /** One call on both, with what it told and all that is held. */
    private boolean call(String name, int... numbers) throws ReflectiveOperationException {
        Class<?>[] types = new Class<?>[numbers.length];
        Object[] values = new Object[numbers.length];
        for (int i = 0; i < numbers.length; i++) {
            types[i] = int.class;
            values[i] = numbers[i];
        }
        Method due = Model.class.getMethod(name, types);
        Method got = DoorRounds.class.getMethod(name, types);
        String what = name + Arrays.toString(numbers);
        told.add(what);
        long want = ((Number) due.invoke(model, values)).longValue();
        long have = ((Number) got.invoke(program, values)).longValue();
        check.due(what, want, have);
        check.due(what + ": asked()", model.asked(), program.asked());
        check.due(what + ": digest()", model.digest(), program.digest());
        check.due(what + ": finding()", model.finding(), program.finding());
        doors = model.count(0);
        shops = model.count(1);
        return want == have && model.digest() == program.digest() && model.asked() == program.asked();
    }

    private int drawn(String what) {
        if (draw(25) == 0) {
            int[] odd = {-1, -2, 1000, Integer.MAX_VALUE, Integer.MIN_VALUE, 41, 101, 61, 31, 32, 7, 10};
            return odd[draw(odd.length)];
        }
        return switch (what) {
            case "r" -> draw(6);
            case "size" -> draw(3) == 0 ? draw(41) : draw(6);
            case "place" -> draw(6);
            case "value" -> draw(8) == 0 ? among(-5, 1 << 20) : draw(Math.max(10, doors));
            case "t" -> draw(4);
            case "length" -> draw(20);
            case "byte" -> draw(60);
            case "sign" -> "d0123456789:+-sfynop ".charAt(draw(21)) + 256 * among(-1, 1);
            case "s" -> draw(Math.max(1, shops + (draw(20) == 0 ? 1 : 0)));
            case "what" -> draw(8);
            case "kind" -> among(1, 5);
            case "d" -> draw(Math.max(1, doors + (draw(20) == 0 ? 1 : 0)));
            case "weeks" -> draw(4) == 0 ? draw(402) : draw(12);
            case "far" -> draw(2) == 0 ? among(999999000, 1000000000) : draw(2000);
            case "k" -> draw(3);
            case "set" -> draw((1 << shops) + (draw(20) == 0 ? 1 : 0));
            case "look" -> draw(4) == 0 ? draw(62) : draw(14);
            case "short" -> draw(3) == 0 ? draw(32) : draw(9);
            case "step" -> among(-9, 9);
            case "noted" -> draw(3) == 0 ? draw(100) : draw(8);
            case "few" -> draw(14);
            case "rents" -> draw(3) == 0 ? draw(6) : 5;
            default -> throw new IllegalArgumentException(what);
        };
    }

    private String item(int size) {
        char letter = "sfynop".charAt(draw(6));
        String k = "nop".indexOf(letter) < 0 ? "" : ":" + among(2, 9);
        int age = draw(2) == 0 ? among(1, 3) : among(1, 99);
        return "" + letter + draw(size) + ":" + (draw(2) == 0 ? "+" : "-") + draw(10) + ":" + age + k;
    }

    private String drawnText() {
        int size = draw(2) == 0 ? among(10, 14) : among(10, 30);
        StringBuilder text = new StringBuilder(" ".repeat(draw(2)) + "d" + size);
        for (int s = draw(9); s > 0; s--) {
            text.append(" ".repeat(draw(3))).append(item(size));
        }
        return text.length() > 100 ? text.substring(0, 100) : text.toString();
    }

    /** A TEXT that is most often a SQUARE: one with a FAULT is drawn anew some times. */
    private boolean writeSquare(int t) throws ReflectiveOperationException {
        for (int tries = 0; tries < 30; tries++) {
            String text = drawnText();
            Model trial = new Model();
            trial.text(0, text.length());
            for (int i = 0; i < text.length(); i++) {
                trial.put(0, i, text.charAt(i));
            }
            if (trial.square(0) > 0) {
                return write(t, text) && call("fault", t) && call("square", t);
            }
        }
        return true;
    }

    private boolean write(int t, String text) throws ReflectiveOperationException {
        boolean right = call("text", t, text.length());
        for (int i = 0; i < text.length() && right; i++) {
            right = call("put", t, i, text.charAt(i));
        }
        return right;
    }

    private boolean writeRents() throws ReflectiveOperationException {
        boolean right = call("row", 5, doors);
        for (int d = 0; d < doors && right; d++) {
            right = call("lay", 5, d, draw(60) == 0 ? among(-1, 101) : draw(100));
        }
        return right && call("dearest", 5, 1);
    }

    /** Many TEXTS with a sign or two changed, for their FAULTS alone. */
    private void faults() {
        for (int i = 0; i < 40000; i++) {
            seed = 104729L * i + 7;
            StringBuilder text = new StringBuilder(drawnText());
            for (int changes = draw(3); changes > 0; changes--) {
                int place = draw(text.length());
                text.setCharAt(place, "d0123456789:+-sfynop x".charAt(draw(22)));
            }
            DoorRounds x = new DoorRounds();
            Model y = new Model();
            Check.write(x, 0, text.toString());
            y.text(0, text.length());
            for (int p = 0; p < text.length(); p++) {
                y.put(0, p, text.charAt(p));
            }
            check.due("fault of \"" + text + "\"", y.fault(0), x.fault(0));
            check.due("square of \"" + text + "\"", y.square(0), x.square(0));
        }
    }
}
