/** Promises 8 to 15: text, put, fault, square, about, mark, shut, open. */
public final class SquaresTest {
    private static final Check check = new Check("SquaresTest");
    private static final int BAD = DoorRounds.BAD, FULL = DoorRounds.FULL, STATE = DoorRounds.STATE;
    private static final int NONE = DoorRounds.NONE;

    public static void main(String[] args) {
        text();
        put();
        noFaults();
        faults();
        square();
        about();
        marks();
        marksOfWeeks();
        shutAndOpen();
        check.end();
    }

    private static void text() {
        DoorRounds x = new DoorRounds();
        check.due("text(0, 0)", 0, x.text(0, 0));
        check.due("text(3, 100)", 100, x.text(3, 100));
        check.due("texts there", 2, x.count(7));
        check.due("a blank", 1032, x.put(3, 99, 65));
        check.due("text(3, 100) anew", 100, x.text(3, 100));
        check.due("a blank again", 1032, x.put(3, 99, 65));
        check.due("text(4, 1)", BAD, x.text(4, 1));
        check.due("text(-1, 1)", BAD, x.text(-1, 1));
        check.due("text(0, 101)", BAD, x.text(0, 101));
        check.due("text(4, -1): BAD ahead of SIZE", BAD, x.text(4, -1));
        check.finding("text(0, -1)", x, 5, x.text(0, -1));
    }

    private static void put() {
        DoorRounds x = new DoorRounds();
        x.text(1, 2);
        check.due("put(1, 1, 200)", 1032, x.put(1, 1, 200));
        check.due("200 is cut to -56", 944, x.put(1, 1, 256 + 7));
        check.due("263 is cut to 7", 1007, x.put(1, 1, -129));
        check.due("-129 is cut to 127", 1127, x.put(1, 1, 128));
        check.due("128 is cut to -128", 872, x.put(1, 1, 0));
        check.due("put(4, 0, 0)", BAD, x.put(4, 0, 0));
        check.due("put(-1, 0, 0)", BAD, x.put(-1, 0, 0));
        check.finding("put(0, 5, 0): NOTHING ahead of BEYOND", x, 1, x.put(0, 5, 0));
        check.finding("put(1, 2, 0)", x, 2, x.put(1, 2, 0));
        check.finding("put(1, -1, 0)", x, 2, x.put(1, -1, 0));
    }

    private static void fault(int due, String text) {
        DoorRounds x = new DoorRounds();
        Check.write(x, 0, text);
        check.due("fault of \"" + text + "\"", due, x.fault(0));
        int shops = x.square(0);
        check.holds("square of \"" + text + "\" fits its fault", due == NONE ? shops >= 0 : shops == STATE);
    }

    private static void noFaults() {
        fault(NONE, "d10");
        fault(NONE, "d30");
        fault(NONE, "  d10  ");
        fault(NONE, "d10s0:+0:1");
        fault(NONE, "d10s9:-9:99");
        fault(NONE, "d10s09:-0:01f1:+1:1");
        fault(NONE, "d30  s29:+1:9   n28:+1:9:2o27:+1:9:9 p0:-3:12:5  ");
        fault(NONE, "d10s0:+0:1s1:+0:1s2:+0:1s3:+0:1s4:+0:1s5:+0:1s6:+0:1 ");
        fault(NONE, "d10y1:+2:3 f2:+2:3");
    }

    private static void faults() {
        fault(0, "");
        fault(3, "   ");
        fault(0, "D10");
        fault(2, "  e10");
        fault(1, "d");
        fault(1, "d 10");
        fault(2, "d1");
        fault(2, "d1 ");
        fault(3, "d09");
        fault(3, "d31");
        fault(3, "d99s");
        fault(3, "d100");
        fault(4, "d10 x1:+1:1");
        fault(4, "d10 d10");
        fault(4, "d10s");
        fault(4, "d10s:+1:1");
        fault(4, "d10s 1:+1:1");
        fault(6, "d10s10:+1:1");
        fault(6, "d20s123:+1:1");
        fault(5, "d10s1");
        fault(5, "d10s1 :+1:1");
        fault(6, "d10s1:");
        fault(6, "d10s1:1:1");
        fault(7, "d10s1:+:1");
        fault(7, "d10s1:-");
        fault(8, "d10s1:+12:1");
        fault(8, "d10s1:+1 :1");
        fault(9, "d10s1:+1: 1");
        fault(9, "d10s1:+1:");
        fault(10, "d10s1:+1:0");
        fault(11, "d10s1:+1:00");
        fault(11, "d10s1:+1:100");
        fault(10, "d10s1:+1:1:2");
        fault(11, "d10f1:+1:12:2");
        fault(10, "d10n1:+1:1");
        fault(10, "d10n1:+1:1 :2");
        fault(11, "d10n1:+1:1:");
        fault(11, "d10o1:+1:1:x");
        fault(12, "d10o1:+1:1:1");
        fault(12, "d10p1:+1:1:0");
        fault(12, "d10p1:+1:1:22");
        fault(12, "d10s1:+1:1s1:+1:1");
        fault(13, "d10s1:+1:1s01:+1:1");
        fault(13, "d10s1:+1:1 n1:+1:1:2");
        fault(52, "d10s0:+0:1s1:+0:1s2:+0:1s3:+0:1s4:+0:1s5:+0:1s6:+0:1s7:+0:1");
        fault(54, "d10s0:+0:1s1:+0:1s2:+0:1s3:+0:1s4:+0:1s5:+0:1s6:+0:1  s7");
        DoorRounds x = new DoorRounds();
        check.due("fault(4)", BAD, x.fault(4));
        check.due("fault(-1)", BAD, x.fault(-1));
        check.finding("fault(2)", x, 1, x.fault(2));
        Check.write(x, 0, "d10");
        x.put(0, 0, 100 + 256);
        check.due("a byte is cut ahead of reading", NONE, x.fault(0));
    }

    private static void square() {
        DoorRounds x = new DoorRounds();
        check.due("square(4)", BAD, x.square(4));
        check.due("square(-1)", BAD, x.square(-1));
        check.finding("square(0)", x, 1, x.square(0));
        Check.write(x, 0, "d10s0:+1:1 s5:+1:1");
        Check.write(x, 1, "d10s0:+1");
        Check.write(x, 2, "d12");
        check.due("square(1)", STATE, x.square(1));
        check.due("no doors yet", 0, x.count(0));
        check.due("square(0)", 2, x.square(0));
        x.shut(9);
        x.go(3);
        x.note(1, 1, 1);
        x.keep(1);
        check.due("a faulty square leaves all", STATE, x.square(1));
        check.due("doors stay", 10, x.count(0));
        check.due("the week stays", 3, x.count(2));
        check.due("notes stay", 1, x.count(5));
        check.due("shut stays", 1, x.count(4));
        check.due("square(0) anew", 2, x.square(0));
        check.due("week 0", 0, x.count(2));
        check.due("none shut", 0, x.count(4));
        check.due("notes went", 0, x.count(5));
        check.finding("kept weeks went", x, 1, x.on(1));
        check.due("shop 0 is at its door again", 0, x.who(0));
        check.due("shop 1, too", 1, x.who(5));
        check.due("square without shops", 0, x.square(2));
        check.due("its doors", 12, x.count(0));
    }

    private static void about() {
        DoorRounds x = Check.with("d10 s0:+1:1 o7:-4:98:6");
        int[] due = {4, 7, -4, 98, 6, 7};
        for (int what = 0; what < 6; what++) {
            check.asked("about(1, " + what + ")", x, 1, due[what], x.about(1, what));
        }
        check.asked("k of none", x, 1, 0, x.about(0, 4));
        x.go(1);
        check.asked("the door now", x, 1, 3, x.about(1, 1));
        check.asked("the door as told", x, 1, 7, x.about(1, 5));
        check.due("about(2, 0)", BAD, x.about(2, 0));
        check.due("about(-1, 0)", BAD, x.about(-1, 0));
        check.due("about(0, 6)", BAD, x.about(0, 6));
        check.due("about(0, -1)", BAD, x.about(0, -1));
        check.due("refused ones leave asked()", 7, x.asked());
        String letters = "sfynop";
        for (int kind = 0; kind < 6; kind++) {
            x = Check.with("d10" + letters.charAt(kind) + "1:+2:3" + (kind > 2 ? ":4" : ""));
            check.asked("kind of " + letters.charAt(kind), x, 1, kind, x.about(0, 0));
        }
    }

    private static void marks() {
        DoorRounds x = Check.with("d12 f0:+3:9 s11:+1:1 s1:-2:1 y5:+6:9 s8:+3:1 s2:-3:2");
        check.due("two beside a fixed one, over the seam", 2, x.mark(0, 1));
        // The shy one wants 11, as do shop 4 (8 + 3), shop 2 (1 - 2) and shop 5 (2 - 3).
        check.due("three others want it", 3, x.mark(3, 2));
        check.due("none beside, though door 0 is", 0, Check.with("d10 f1:+0:1 s5:+1:1").mark(0, 1));
        check.due("none wants it, though it is door 0", 0, Check.with("d10 y9:+1:1 s5:+1:1").mark(0, 2));
        check.finding("a fixed one is not shy", x, 3, x.mark(0, 2));
        check.finding("a shy one is not fixed", x, 3, x.mark(3, 1));
        check.finding("a shop is no sleeper", x, 3, x.mark(1, 3));
        check.due("mark(0, 0)", BAD, x.mark(0, 0));
        check.due("mark(0, 6)", BAD, x.mark(0, 6));
        check.due("mark(6, 1)", BAD, x.mark(6, 1));
        check.due("mark(-1, 1)", BAD, x.mark(-1, 1));
        check.due("findings", 3, x.findings(3));
    }

    private static void marksOfWeeks() {
        DoorRounds x = Check.with("d20 n0:+1:9:3 o5:+0:9:4 p10:-4:9:5 p15:+3:9:2");
        int[] sleep3 = {2, 1, 0, 2, 1, 0, 2, 1, 0};
        int[] turn4 = {4, 3, 2, 1, 4, 3, 2, 1, 4};
        int[] sleep5 = {4, 3, 2, 1, 0, 4, 3, 2, 1};
        for (int w = 0; w < 9; w++) {
            check.due("sleeper in week " + w, sleep3[w], x.mark(0, 3));
            check.due("turner in week " + w, turn4[w], x.mark(1, 4));
            check.due("dreamer as a sleeper in week " + w, sleep5[w], x.mark(2, 3));
            check.due("dreamer in week " + w, 1000 - 12, x.mark(2, 5));
            check.due("dreamer of 2 in week " + w, 1000, x.mark(3, 5));
            x.go(1);
        }
        check.finding("a sleeper is no dreamer", x, 3, x.mark(0, 5));
        check.finding("a dreamer is no turner", x, 3, x.mark(2, 4));
        check.finding("a turner is no sleeper", x, 3, x.mark(1, 3));
    }

    private static void shutAndOpen() {
        DoorRounds x = Check.with("d10 s0:+1:1");
        check.due("shut(10)", BAD, x.shut(10));
        check.due("shut(-1)", BAD, x.shut(-1));
        check.due("shut(0)", 1, x.shut(0));
        check.due("shut(0) twice", STATE, x.shut(0));
        check.due("shut(9)", 2, x.shut(9));
        check.due("open(8)", STATE, x.open(8));
        check.due("shut(4)", 3, x.shut(4));
        check.due("a fourth", FULL, x.shut(5));
        check.due("STATE ahead of FULL", STATE, x.shut(4));
        check.due("the shop keeps its shut door", 0, x.who(0));
        check.due("open(9)", 2, x.open(9));
        check.due("open(9) twice", STATE, x.open(9));
        check.due("open(10)", BAD, x.open(10));
        check.due("open(-1)", BAD, x.open(-1));
        check.due("room for one more", 3, x.shut(5));
        check.due("shut in no square", BAD, new DoorRounds().shut(0));
        check.due("open in no square", BAD, new DoorRounds().open(0));
    }
}
