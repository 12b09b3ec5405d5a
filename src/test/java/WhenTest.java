/** Promises 25 to 28: beside, comes, meets, never. */
public final class WhenTest {
    private static final Check check = new Check("WhenTest");
    private static final int BAD = DoorRounds.BAD, NONE = DoorRounds.NONE;

    public static void main(String[] args) {
        beside();
        comes();
        meetsAndNever();
        meetsFromNow();
        wrongOnes();
        check.end();
    }

    private static void beside() {
        DoorRounds x = Check.with("d10 s0:+1:1 s4:-1:1 f9:+0:1");
        check.due("now, over the seam", 0, x.beside(0, 2));
        check.due("both ways alike", 0, x.beside(2, 0));
        // 0 and 4, 1 and 3; both want 2: the first gets it, the other goes on down to 1.
        check.due("two weeks on", 2, x.beside(0, 1));
        check.due("it stays now", 0, x.count(2));
        check.due("never, with alike steps", NONE, Check.with("d10 s0:+1:1 s5:+1:1").beside(0, 1));
        // A fixed one of age 1 is pushed up by one every 28 weeks, till it is beside the one of age 99.
        check.due("in week 600", 600, Check.with("d30 f4:+0:1 s16:-1:9 f27:+0:99").beside(0, 2));
        x = Check.with("d30 f4:+0:1 s17:-1:9 f27:+0:99");
        check.due("in week 601", NONE, x.beside(0, 2));
        x.go(1);
        check.due("600 from week 1 on", 600, x.beside(0, 2));
    }

    private static void comes() {
        DoorRounds x = Check.with("d10 s0:+3:1 f6:+0:9");
        check.due("now", 0, x.comes(0, 0));
        check.due("next week", 1, x.comes(0, 3));
        // 0, 3, then 6 is taken: 7, 0, 3, 7, ..
        check.due("a door that another one has", NONE, x.comes(0, 6));
        check.due("where it comes instead", 2, x.comes(0, 7));
        x.go(2);
        check.due("from now on", 1, x.comes(0, 0));
        check.due("in week 600", 600, Check.with("d30 f5:+0:1 s25:-1:9").comes(0, 26));
        x = Check.with("d30 f5:+0:1 s26:-1:9");
        check.due("in week 601", NONE, x.comes(0, 26));
        x.go(1);
        check.due("600 from week 1 on", 600, x.comes(0, 26));
    }

    private static void meets(DoorRounds x, int q, int away, int due, int period, int common) {
        String what = "(0, " + q + ", " + away + ")";
        if (due == NONE) {
            int before = x.asked();
            check.asked("meets" + what, x, NONE, before, x.meets(0, q, away));
            check.asked("never" + what, x, 1, common, x.never(0, q, away));
        } else {
            check.asked("meets" + what, x, due, period, x.meets(0, q, away));
            check.asked("never" + what, x, 0, common, x.never(0, q, away));
        }
    }

    private static void meetsAndNever() {
        DoorRounds x = Check.with("d12 s0:+1:1 s5:-1:1 f7:+5:1 o1:+1:1:2 n3:-8:9:4");
        // Shop 1 is 5 up from shop 0 and loses 2 a week: 5, 3, 1, 11, 9, 7.
        meets(x, 1, 5, 0, 6, 2);
        meets(x, 1, 3, 1, 6, 2);
        meets(x, 1, 1, 2, 6, 2);
        meets(x, 1, 11, 3, 6, 2);
        meets(x, 1, 7, 5, 6, 2);
        meets(x, 1, 0, NONE, 0, 2);
        meets(x, 1, 2, NONE, 0, 2);
        // The fixed one is taken as of kind 0: it gains 4 a week: 7, 11, 3.
        meets(x, 2, 3, 2, 3, 4);
        meets(x, 2, 7, 0, 3, 4);
        meets(x, 2, 0, NONE, 0, 4);
        // The turner is always 1 up: none apart in steps.
        meets(x, 3, 1, 0, 1, 12);
        meets(x, 3, 2, NONE, 0, 12);
        // The sleeper loses 9 a week: 3, 6, 9, 0.
        meets(x, 4, 0, 3, 4, 3);
        meets(x, 4, 1, NONE, 0, 3);
        x = Check.with("d12 s3:+1:1 s8:-1:1");
        meets(x, 1, 5, 0, 6, 2);
        meets(x, 1, 11, 3, 6, 2);
        x = Check.with("d12 s4:+1:1 s7:+5:1");
        // 3 up and 4 gained a week: 3, 7, 11.
        meets(x, 1, 3, 0, 3, 4);
        meets(x, 1, 11, 2, 3, 4);
        meets(x, 1, 1, NONE, 0, 4);
        x = Check.with("d11 s0:+9:1 s1:-9:1");
        // 18 lost a week is 4 gained: 1, 5, 9, 2, 6, 10, 3, 7, 0.
        meets(x, 1, 0, 8, 11, 1);
        meets(x, 1, 8, 10, 11, 1);
    }

    private static void meetsFromNow() {
        DoorRounds x = Check.with("d12 s0:+1:1 n5:-1:1:2");
        x.go(2);
        // Shop 1 slept once: 2 and 4.
        meets(x, 1, 2, 0, 6, 2);
        meets(x, 1, 0, 1, 6, 2);
        meets(x, 1, 5, NONE, 0, 2);
        x = Check.with("d12 s0:+1:1 s5:-1:1");
        x.shut(1);
        x.go(1);
        check.due("shop 0 had to go on to 2", 0, x.who(2));
        meets(x, 1, 2, 0, 6, 2);
    }

    private static void wrongOnes() {
        DoorRounds x = Check.with("d10 s0:+1:1 s5:+1:1");
        check.due("beside itself", BAD, x.beside(1, 1));
        check.due("beside(0, 2)", BAD, x.beside(0, 2));
        check.due("beside(-1, 0)", BAD, x.beside(-1, 0));
        check.due("beside(2, 0)", BAD, x.beside(2, 0));
        check.due("beside(0, -1)", BAD, x.beside(0, -1));
        check.due("comes(2, 0)", BAD, x.comes(2, 0));
        check.due("comes(-1, 0)", BAD, x.comes(-1, 0));
        check.due("comes(0, 10)", BAD, x.comes(0, 10));
        check.due("comes(0, -1)", BAD, x.comes(0, -1));
        check.due("meets itself", BAD, x.meets(0, 0, 0));
        check.due("meets(0, 2, 0)", BAD, x.meets(0, 2, 0));
        check.due("meets(-1, 0, 0)", BAD, x.meets(-1, 0, 0));
        check.due("meets(0, 1, 10)", BAD, x.meets(0, 1, 10));
        check.due("meets(0, 1, -1)", BAD, x.meets(0, 1, -1));
        check.due("meets(0, 1, 9)", NONE, x.meets(0, 1, 9));
        check.due("never itself", BAD, x.never(0, 0, 0));
        check.due("never(0, 2, 0)", BAD, x.never(0, 2, 0));
        check.due("never(-1, 0, 0)", BAD, x.never(-1, 0, 0));
        check.due("never(0, 1, 10)", BAD, x.never(0, 1, 10));
        check.due("never(0, 1, -1)", BAD, x.never(0, 1, -1));
        check.due("nothing was told", 0, x.asked());
    }
}
