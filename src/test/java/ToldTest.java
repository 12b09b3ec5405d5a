import java.util.ArrayList;
import java.util.List;

/** Promises 45 to 53: image, gone, asked, upper, lower, count, finding, findings, digest. */
public final class ToldTest {
    private static final Check check = new Check("ToldTest");
    private static final int BAD = DoorRounds.BAD, STATE = DoorRounds.STATE;

    public static void main(String[] args) {
        image();
        gone();
        goneRefuses();
        asked();
        counts();
        findings();
        digestOfNothing();
        digestOfAll();
        constants();
        check.end();
    }

    private static void image() {
        check.due("image in no square", STATE, new DoorRounds().image(0));
        check.due("BAD ahead of STATE", BAD, new DoorRounds().image(6));
        DoorRounds x = Check.with("d30 s0:+1:1 s7:+2:1");
        check.due("image(6)", BAD, x.image(6));
        check.due("image(-1)", BAD, x.image(-1));
        x.shut(29);
        x.shut(3);
        x.go(2);
        x.row(5, 40);
        check.due("image(5)", 4, x.image(5));
        check.rowIs("image", x, 5, 2, (1 << 29) + 8, 2, 11);
        check.due("an image of no shops", 2, Check.with("d10").image(0));
    }

    private static void gone() {
        DoorRounds x = Check.with("d30 s0:+1:1 s7:+2:1");
        x.note(1, 1, 1);
        x.keep(0);
        x.shut(1);
        Check.fill(x, 2, 100000, (1 << 29) + 1 + 4, 29, 0);
        check.due("gone(2)", 100000, x.gone(2));
        check.due("the week", 100000, x.count(2));
        check.due("three are shut", 3, x.count(4));
        check.due("29 is shut", 2, x.open(29));
        check.due("1 is not", STATE, x.open(1));
        check.due("shop 0", 0, x.who(29));
        check.due("shop 1, at a shut door", 1, x.who(0));
        check.due("notes stay", 1, x.count(5));
        check.due("kept weeks stay", 0, x.on(0));
        Check.fill(x, 2, 0, 0, 0, 7);
        check.due("week 0, none shut", 0, x.gone(2));
        x.go(7);
        x.image(3);
        long before = x.digest();
        x.go(9);
        check.due("and back", 7, x.gone(3));
        check.due("all is as it was", before, x.digest());
    }

    private static void unlike(String what, int... places) {
        DoorRounds x = Check.with("d10 s0:+1:1 s7:+2:1");
        Check.fill(x, 0, places);
        long before = x.digest();
        check.finding("gone: " + what, x, 3, x.gone(0));
        check.due("gone: " + what + " changes nothing", before, x.digest());
    }

    private static void goneRefuses() {
        DoorRounds x = new DoorRounds();
        check.due("gone(6) in no square", BAD, x.gone(6));
        check.due("STATE ahead of NOTHING", STATE, x.gone(0));
        x = Check.with("d10 s0:+1:1 s7:+2:1");
        check.due("gone(-1)", BAD, x.gone(-1));
        check.finding("gone of a missing row", x, 1, x.gone(0));
        Check.fill(x, 0, -1, -1, -1);
        check.finding("too few: SIZE ahead of UNLIKE", x, 5, x.gone(0));
        Check.fill(x, 0, 0, 0, 1, 2, 3);
        check.finding("too many", x, 5, x.gone(0));
        unlike("week -1", -1, 0, 1, 2);
        unlike("week 100001", 100001, 0, 1, 2);
        unlike("four are shut", 0, 15, 4, 5);
        unlike("a door 10 is shut", 0, 1 << 10, 1, 2);
        unlike("below 0", 0, -1, 1, 2);
        unlike("below 0, one bit", 0, Integer.MIN_VALUE, 1, 2);
        unlike("door 10", 0, 0, 10, 2);
        unlike("door -1", 0, 0, 1, -1);
        unlike("one door", 0, 0, 3, 3);
        unlike("door 32", 0, 0, 3, 32);
    }

    private static void asked() {
        DoorRounds x = new DoorRounds();
        check.due("asked() before", 0, x.asked());
        check.due("upper() before", 0, x.upper());
        check.due("lower() before", 1, x.lower());
        x = Check.with("d20 s0:+1:1 s7:-2:5 n12:+1:3:3");
        Check.fill(x, 0, 4, 6);
        x.mean(0);
        check.due("mean", 5, x.asked());
        // None of these tells anything by asked().
        x.row(1, 20);
        x.copy(0, 0, 1, 0, 2);
        x.doors(2);
        x.where(0, 3);
        x.plainly(0, 3);
        x.again();
        x.beside(0, 1);
        x.comes(0, 3);
        x.walk(0, 3);
        x.round(0, 7);
        x.errands(0, 7, 3, 3);
        x.joins(0, 3);
        x.note(1, 0, 1);
        x.rent(1, 0, 1);
        x.dearest(1, 1);
        x.image(4);
        x.gone(4);
        x.keep(0);
        x.on(0);
        x.mark(2, 3);
        x.shut(3);
        x.open(3);
        x.who(0);
        x.go(0);
        x.count(0);
        x.findings(1);
        x.digest();
        check.due("still the mean", 5, x.asked());
        x.lay(1, 0, -9);
        check.due("lay", 4, x.asked());
        x.at(1, 0);
        check.due("at", -9, x.asked());
        x.wants(1);
        check.due("wants", 5, x.asked());
        x.meets(0, 1, 7);
        check.due("meets", 20, x.asked());
        x.never(0, 1, 7);
        check.due("never", 1, x.asked());
        x.best(10, 1, 0);
        check.due("best", 20, x.asked());
        x.agree(11, 13, 0);
        check.due("agree", 2, x.asked());
        x.busy();
        check.due("busy", 3, x.asked());
        x.steps(1);
        check.due("steps", 19, x.asked());
        x.kinds(1);
        check.due("kinds", 25, x.asked());
        x.worst(1);
        check.due("worst", 1, x.asked());
        x.mends(0, 1);
        check.due("mends", -9, x.asked());
    }

    private static void counts() {
        DoorRounds x = Check.with("d20 s0:+1:1 n7:-2:5:3 p12:+1:3:3 o1:+1:1:2 f2:+1:1");
        x.shut(19);
        x.shut(18);
        x.go(4);
        x.note(0, 0, 0);
        x.row(0, 0);
        x.row(5, 3);
        x.row(3, 3);
        x.text(0, 0);
        int[] due = {20, 5, 4, 2, 2, 1, 3, 2};
        for (int what = 0; what < 8; what++) {
            check.due("count(" + what + ")", due[what], x.count(what));
        }
        check.due("count(8)", BAD, x.count(8));
        check.due("count(-1)", BAD, x.count(-1));
    }

    private static void findings() {
        DoorRounds x = new DoorRounds();
        check.due("finding() before", 0, x.finding());
        for (int f = 1; f <= 5; f++) {
            check.due("findings(" + f + ") before", 0, x.findings(f));
        }
        check.due("findings(0)", BAD, x.findings(0));
        check.due("findings(6)", BAD, x.findings(6));
        x.tear(0);
        x.tear(0);
        x.row(0, 0);
        x.at(0, 0);
        x.mean(0);
        x.mean(0);
        x.mean(0);
        x.row(0, -1);
        check.due("the latest", 5, x.finding());
        x.row(6, 0);
        x.again();
        check.due("BAD and STATE are none", 5, x.finding());
        int[] due = {2, 1, 0, 3, 1};
        for (int f = 1; f <= 5; f++) {
            check.due("findings(" + f + ")", due[f - 1], x.findings(f));
        }
    }

    private static long digestOf(List<Integer> numbers) {
        long h = 17;
        for (int v : numbers) {
            h = 31 * h + v;
        }
        return h;
    }

    private static List<Integer> list(int... numbers) {
        List<Integer> list = new ArrayList<>();
        for (int v : numbers) {
            list.add(v);
        }
        return list;
    }

    private static void digestOfNothing() {
        List<Integer> numbers = list(0, 0, 0, 0, 0, 0, 0, 0, 0, -1, -1, -1);
        numbers.addAll(list(-1, -1, -1, -1, -1, -1, -1, -1, -1, -1));
        check.due("digest of a new object", digestOf(numbers), new DoorRounds().digest());
    }

    private static void digestOfAll() {
        String text = "d30 o0:-1:9:5 n7:+2:1:2";
        DoorRounds x = Check.with(text);
        x.shut(28);
        x.shut(2);
        x.note(99, 1, 29);
        x.note(3, 0, 4);
        x.keep(1);
        x.go(3);
        x.keep(2);
        x.go(1);
        Check.fill(x, 4, -7, 8);
        x.row(1, 0);
        x.text(0, 2);
        x.put(0, 1, 200);
        int asked = x.asked();
        List<Integer> numbers = list(30, 2, 4, 1, 2, 2, 2, 2);
        // Of 0, 29, 28 the last one is shut: 27, then 26, 25.
        numbers.addAll(list(4, 25, -1, 9, 5, 0));
        numbers.addAll(list(3, 11, 2, 1, 2, 7));
        numbers.add((1 << 28) + 4);
        numbers.addAll(list(99, 1, 29, 3, 0, 4));
        numbers.addAll(list(-1, 0, 3));
        numbers.addAll(list(-1, 0, -1, -1, 2, -7, 8, -1));
        numbers.addAll(list(2, 32, -56, -1, -1, text.length()));
        for (char sign : text.toCharArray()) {
            numbers.add((int) sign);
        }
        check.due("digest", digestOf(numbers), x.digest());
        check.due("digest leaves asked()", asked, x.asked());
        check.due("digest twice", digestOf(numbers), x.digest());
    }

    private static void constants() {
        check.due("BAD", -1, DoorRounds.BAD);
        check.due("FULL", -2, DoorRounds.FULL);
        check.due("FINDING", -3, DoorRounds.FINDING);
        check.due("STATE", -4, DoorRounds.STATE);
        check.due("SPENT", -6, DoorRounds.SPENT);
        check.due("NONE", -9, DoorRounds.NONE);
    }
}
