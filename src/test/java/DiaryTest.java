/** Promises 37 to 40: note, back, steps, kinds. */
public final class DiaryTest {
    private static final Check check = new Check("DiaryTest");
    private static final int BAD = DoorRounds.BAD, FULL = DoorRounds.FULL, NONE = DoorRounds.NONE;
    private static final int ALL = (1 << 19) - 1;

    public static void main(String[] args) {
        note();
        back();
        steps();
        kinds();
        check.end();
    }

    private static void note() {
        DoorRounds x = Check.with("d10 s0:+1:1");
        check.due("note(-1, 0, 0)", BAD, x.note(-1, 0, 0));
        check.due("note(100, 0, 0)", BAD, x.note(100, 0, 0));
        check.due("note(0, 1, 0)", BAD, x.note(0, 1, 0));
        check.due("note(0, -1, 0)", BAD, x.note(0, -1, 0));
        check.due("note(0, 0, 10)", BAD, x.note(0, 0, 10));
        check.due("note(0, 0, -1)", BAD, x.note(0, 0, -1));
        for (int i = 0; i < 12; i++) {
            check.due("note " + i, i, x.note(i == 0 ? 99 : i, 0, i % 10));
        }
        check.due("a thirteenth", FULL, x.note(0, 0, 0));
        check.due("BAD ahead of FULL", BAD, x.note(0, 0, 10));
        check.due("notes", 12, x.count(5));
        check.due("note in no square", BAD, new DoorRounds().note(0, 0, 0));
    }

    private static void back() {
        DoorRounds x = Check.with("d10 s0:+1:1");
        for (int i = 0; i < 5; i++) {
            x.note(i, 0, 0);
        }
        check.due("back(6)", BAD, x.back(6));
        check.due("back(-1)", BAD, x.back(-1));
        check.due("back(5)", 0, x.back(5));
        check.due("back(3)", 2, x.back(3));
        check.due("notes", 3, x.count(5));
        check.due("back(4)", BAD, x.back(4));
        check.due("the next number", 3, x.note(0, 0, 0));
        check.due("back(0)", 4, x.back(0));
        check.due("none left", 0, x.count(5));
    }

    private static int bits(int... steps) {
        int set = 0;
        for (int step : steps) {
            set |= 1 << (step + 9);
        }
        return set;
    }

    private static void steps(String shop, int week, int door, int... due) {
        DoorRounds x = Check.with("d10 " + shop + " s9:+1:1");
        x.note(week, 1, 0);
        x.note(week, 0, door);
        x.go(5);
        check.asked(shop + " at " + door + " in week " + week, x, bits(due), due.length, x.steps(0));
    }

    private static void steps() {
        DoorRounds x = Check.with("d10 s2:+1:1 s3:+0:1");
        check.asked("no notes", x, ALL, 19, x.steps(0));
        x.note(1, 1, 4);
        check.asked("no notes of this one", x, ALL, 19, x.steps(0));
        check.asked("a note of that one", x, bits(-9, 1), 2, x.steps(1));
        x.note(2, 1, 6);
        check.asked("two notes that don't fit", x, 0, 0, x.steps(1));
        check.due("steps(2)", BAD, x.steps(2));
        check.due("steps(-1)", BAD, x.steps(-1));
        steps("s2:+1:1", 3, 8, -8, 2);
        steps("s2:+1:1", 0, 3);
        steps("y2:+1:1", 2, 0, -6, -1, 4, 9);
        steps("f2:+1:1", 99, 3);
        steps("f2:+1:1", 99, 2, -9, -8, -7, -6, -5, -4, -3, -2, -1, 0, 1, 2, 3, 4, 5, 6, 7, 8, 9);
        // 3 weeks of a sleeper of 3: twice its step.
        steps("n2:+1:1:3", 3, 8, -7, -2, 3, 8);
        // 5 weeks of a turner of 3: thrice up, twice down.
        steps("o2:+1:1:3", 5, 5, -7, 3);
        // 3 weeks of a dreamer of 3: twice up, once down.
        steps("p2:+1:1:3", 3, 5, -7, 3);
        steps("p2:+1:1:2", 2, 3);
    }

    private static void kinds() {
        DoorRounds x = Check.with("d10 f2:+3:1 s0:+1:1");
        check.asked("no notes", x, 0, 25, x.kinds(0));
        x.note(3, 0, 1);
        // 2, 5, 8, 1 by a shop; others go so in their first 3 weeks, too: k 4 .. 9 (sleeper, dreamer), 3 .. 9.
        check.asked("a shop", x, 0, 1 + 6 + 7 + 6, x.kinds(0));
        x.note(4, 0, 1);
        // Asleep in week 3 alone: a sleeper of 4.
        check.asked("a sleeper", x, 34, 1, x.kinds(0));
        x.back(0);
        x.note(3, 0, 8);
        // Asleep in one of the weeks 0 to 2: a sleeper of 2 (week 1) or 3 (week 2).
        check.asked("two sleepers", x, 32, 2, x.kinds(0));
        x.back(0);
        x.note(3, 0, 5);
        // Back in one of three: a turner of 2 (week 2), a dreamer of 2 or 3.
        check.asked("a turner", x, 42, 3, x.kinds(0));
        x.note(2, 0, 2);
        check.asked("a dreamer", x, 52, 1, x.kinds(0));
        x.note(1, 0, 2);
        int before = x.asked();
        check.asked("none leaves asked()", x, NONE, before, x.kinds(0));
        check.asked("the other one has no notes", x, 0, 25, x.kinds(1));
        check.due("kinds(2)", BAD, x.kinds(2));
        check.due("kinds(-1)", BAD, x.kinds(-1));
        x = Check.with("d10 s2:+0:1");
        x.note(50, 0, 2);
        check.asked("a step of 0 fits all", x, 0, 25, x.kinds(0));
    }
}
