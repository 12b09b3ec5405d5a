/** Promises 34 to 36: joins, quiet, busy. */
public final class NewShopsTest {
    private static final Check check = new Check("NewShopsTest");
    private static final int BAD = DoorRounds.BAD, STATE = DoorRounds.STATE, NONE = DoorRounds.NONE;

    public static void main(String[] args) {
        joins();
        quiet();
        busy();
        check.end();
    }

    private static void joins() {
        DoorRounds x = Check.with("d12 s0:+1:1 f6:+3:1 o3:-1:1:2");
        // Against shop 0 none apart: only its own door; shop 1 (2 apart, 6 away): yes; shop 2 (2 apart, 3 away): no.
        check.due("joins(0, 1)", 0b011, x.joins(0, 1));
        check.due("joins(1, 1)", 0b100, x.joins(1, 1));
        check.due("joins(2, 1)", 0b010, x.joins(2, 1));
        // 3 and 1 are 2 apart: even doors; 3 and 3 none: door 6 alone; 3 and -1 are 4: doors 3, 7, 11.
        check.due("joins(7, 3)", 0b100, x.joins(7, 3));
        check.due("joins(6, 3)", 0b011, x.joins(6, 3));
        check.due("joins(9, 3)", 0b000, x.joins(9, 3));
        // -3 and 1 are 4 apart: doors 0, 4, 8; -3 and 3 are 6: doors 0, 6; -3 and -1 are 2: odd doors.
        check.due("joins(4, -3)", 0b001, x.joins(4, -3));
        // 9 and 3 are 6 apart: doors 0 and 6; 9 and 1 are 8: doors 0, 4, 8; 9 and -1 are 10: odd doors.
        check.due("joins(0, 9)", 0b011, x.joins(0, 9));
        // -9 and 3 are 12 apart: door 6 alone; -9 and 1 are 10: even doors; -9 and -1 are 8: doors 3, 7, 11.
        check.due("joins(0, -9)", 0b001, x.joins(0, -9));
        check.due("joins(12, 0)", BAD, x.joins(12, 0));
        check.due("joins(-1, 0)", BAD, x.joins(-1, 0));
        check.due("joins(0, 10)", BAD, x.joins(0, 10));
        check.due("joins(0, -10)", BAD, x.joins(0, -10));
        check.due("joins in no square", BAD, new DoorRounds().joins(0, 0));
        x.go(1);
        check.due("from where it is now", 0b001, x.joins(1, 1) & 0b001);
        check.due("none of where it was", 0, x.joins(0, 1) & 0b001);
    }

    private static void quiet() {
        check.due("quiet in no square", STATE, new DoorRounds().quiet());
        DoorRounds x = Check.with("d10");
        check.asked("with no shops any", x, 0, 190, x.quiet());
        x = Check.with("d11 s0:+1:1");
        // 11 is prime: only a course alike (steps of 1) never meets it; steps of -10 and 12 are none.
        check.asked("behind it", x, 110, 10, x.quiet());
        x = Check.with("d11 s0:-9:1");
        // -9 is 2 round about, too.
        check.asked("two steps alike", x, 100, 20, x.quiet());
        x = Check.with("d11 s0:+1:1 s1:+2:1");
        check.asked("none", x, NONE, 0, x.quiet());
        check.asked("none leaves asked()", x, NONE, 0, x.quiet());
        x = Check.with("d11 s0:+1:1 s1:+2:1");
        x.about(1, 5);
        check.asked("none leaves asked() of another one", x, NONE, 1, x.quiet());
        x = Check.with("d10 s0:+0:1 s2:+2:1");
        // Even doors, even steps meet or not; odd doors with even steps are always odd.
        check.due("an odd door", 0, x.joins(1, -8));
        check.due("the first pair", 101, x.quiet());
        x.go(1);
        check.due("from now on", 101, x.quiet());
    }

    private static void busy() {
        check.due("busy in no square", STATE, new DoorRounds().busy());
        DoorRounds x = Check.with("d10");
        check.asked("with no shops", x, 0, 0, x.busy());
        x = Check.with("d11 s1:+1:1 s5:+3:1");
        check.asked("all", x, 0, 2, x.busy());
        x = Check.with("d11 s1:-9:1 s5:+2:1");
        // Steps of -9 and of 2 meet those at their own doors only; all others meet both.
        check.asked("all but two steps", x, 1, 2, x.busy());
        x = Check.with("d10 s0:+1:1 s1:+1:1 s2:+1:1");
        // A step of 0 meets all three.
        check.asked("the first step", x, 1, 3, x.busy());
        // 9 is 1, 13, 5 and 2 apart from their steps: doors any, any, by fives, by twos.
        x = Check.with("d30 s11:+8:1 s6:-4:1 s15:+4:1 s8:+7:1");
        check.asked("the last step", x, 18, 4, x.busy());
    }
}
