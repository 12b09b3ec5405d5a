/** "Terms", 2 and 3: who gets which DOOR, PLAINLY, BESIDE, WALKING, a ROUND, NOTES. */
final class EdgesOfMondays {
    private EdgesOfMondays() {
    }

    static void all(Edges e) {
        wants(e);
        order(e);
        wanted(e);
        goesOn(e);
        shut(e);
        plainly(e);
        besideAndWalking(e);
        rounds(e);
        notes(e);
    }

    /** Where all are a WEEK on, with some DOORS SHUT. */
    private static void next(Edges e, String square, String shut, int... due) {
        String[] doors = shut.isEmpty() ? new String[0] : shut.split(" ");
        String[] script = new String[1 + doors.length];
        script[0] = "square: " + square;
        for (int i = 0; i < doors.length; i++) {
            script[i + 1] = "shut(" + doors[i] + ")";
        }
        e.from(script);
        for (int s = 0; s < due.length; s++) {
            e.looks("where(" + s + ", 1)", due[s]);
        }
    }

    private static void wants(Edges e) {
        e.says(Edges.TERMS, "From a WEEK to the next one each SHOP WANTS the DOOR it has, and its GOING more (round "
                + "about).");
        e.from("square: d10 s9:+1:1 s0:-1:1 s5:+9:1 s6:-9:1 f8:+3:1");
        e.tells("wants(0)", 0, 0);
        e.tells("wants(1)", 9, 9);
        e.tells("wants(2)", 4, 4);
        e.tells("wants(3)", 7, 7);
        e.tells("wants(4)", 8, 8);
        e.from("square: d30 s29:+1:1 s0:-1:1 s21:+9:1 s8:-9:1");
        e.tells("wants(0)", 0, 0);
        e.tells("wants(1)", 29, 29);
        // 21 and 9 more is 0, which the first has; 8 less 9 is 29, which the second has.
        e.tells("wants(2)", 0, 1);
        e.tells("wants(3)", 29, 28);
    }

    private static void order(Edges e) {
        e.says(Edges.TERMS, "They take DOORS one behind the other: all others ahead of SHY ones, the greatest AGE first (of "
                + "alike ones the least number):");
        next(e, "d10 y4:+1:99 s6:-1:1", "", 6, 5);
        next(e, "d10 s4:+1:1 y6:-1:99", "", 5, 4);
        next(e, "d10 s4:+1:1 s6:-1:2", "", 6, 5);
        next(e, "d10 s4:+1:2 s6:-1:1", "", 5, 4);
        next(e, "d10 s4:+1:98 s6:-1:99", "", 6, 5);
        next(e, "d10 s4:+1:1 s6:-1:1", "", 5, 4);
        next(e, "d10 s4:+1:99 s6:-1:99", "", 5, 4);
        next(e, "d10 y4:+1:1 y6:-1:2", "", 6, 5);
        next(e, "d10 y4:+1:1 y6:-1:1", "", 5, 4);
        // Seven for one DOOR: three by age, alike ones by number, and the SHY ones behind all.
        next(e, "d30 y1:-1:98 y2:-2:99 s3:-3:1 s4:-4:3 s5:-5:2 s6:-6:2 s7:-7:3", "", 24, 25, 26, 0, 28, 27, 29);
    }

    private static void wanted(Edges e) {
        e.says(Edges.TERMS, "what it WANTS, if that is neither taken nor SHUT;");
        next(e, "d10 s4:+1:1", "", 5);
        next(e, "d10 s4:+1:1", "4 6", 5);
        next(e, "d10 s4:+1:1", "5", 6);
        // Who leaves a DOOR leaves it free, whether ahead or behind.
        next(e, "d10 s4:+1:1 s5:+1:9", "", 5, 6);
        next(e, "d10 s4:+1:9 s5:+1:1", "", 5, 6);
        next(e, "d10 s4:+1:9 s5:-1:1", "", 5, 4);
        next(e, "d10 s4:+1:9 f5:+0:1", "", 5, 6);
        next(e, "d10 s4:+1:1 f5:+0:9", "", 6, 5);
    }

    private static void goesOn(Edges e) {
        e.says(Edges.TERMS, "else it goes on, door by door (down, if its GOING is below 0, else up), to the first that is "
                + "neither.");
        next(e, "d10 f5:-9:1 s6:-1:9", "", 6, 5);
        next(e, "d10 s5:-0:1 s6:-1:9", "", 6, 5);
        next(e, "d10 s4:+1:1 s6:-1:9", "", 6, 5);
        next(e, "d10 s6:-1:1 s4:+1:9", "", 4, 5);
        // Over the seam, over some that are taken and SHUT.
        next(e, "d10 s8:+1:1 f9:+0:9", "", 0, 9);
        next(e, "d10 s0:-1:1 s8:+1:9", "", 8, 9);
        next(e, "d10 s1:-1:1 f0:+0:9", "", 9, 0);
        next(e, "d10 s7:+1:1 f8:+0:9 f9:+0:9 f0:+0:9", "1 2", 3, 8, 9, 0);
        next(e, "d10 s2:-1:1 f1:+0:9 f0:+0:9 f9:+0:9", "8 7", 6, 1, 0, 9);
        next(e, "d30 s28:+1:1 f29:+0:9", "0", 1, 29);
        next(e, "d30 s1:-1:1 f0:+0:9", "29", 28, 0);
        // The GOING tells the way, not the STEP: asleep it goes up; turned it goes the other way.
        e.from("square: d10 n6:-1:1:2 s3:+1:9");
        e.looks("where(0, 1)", 5);
        e.looks("where(0, 2)", 6);
        e.looks("where(1, 2)", 5);
        e.from("square: d10 o2:+1:1:2 s0:+1:9");
        e.looks("where(0, 2)", 4);
        e.looks("where(0, 3)", 2);
        e.looks("where(1, 3)", 3);
        // Seven SHOPS and three SHUT DOORS of ten: each DOOR is had or SHUT.
        String seven = "d10 f0:+0:7 f1:+0:6 f2:+0:5 f3:+0:4 f4:+0:3 f5:+0:2 ";
        next(e, seven + "f6:+0:1", "0 1 2", 3, 4, 5, 6, 7, 8, 9);
        next(e, seven + "s6:+1:1", "7 8 9", 0, 1, 2, 3, 4, 5, 6);
        next(e, seven + "s6:-1:1", "7 8 9", 0, 1, 2, 3, 4, 5, 6);
        next(e, seven + "s6:+1:99", "7 8 9", 1, 2, 3, 4, 5, 6, 0);
    }

    private static void shut(Edges e) {
        e.says(Edges.TERMS, "DOORS may be SHUT (3 at most);");
        e.from("square: d30 s0:+1:1");
        e.inTurn("shut(0)", 1, "shut(15)", 2, "shut(29)", 3, "shut(1)", Edges.FULL, "count(4)", 3, "open(15)", 2, "shut(1)", 3);
        e.says(Edges.TERMS, "a SHOP that has such a DOOR keeps it till it goes.");
        e.from("square: d10 s4:+1:1 f5:+0:1", "shut(4)", "shut(5)");
        e.inTurn("who(4)", 0, "who(5)", 1, "go(0)", 0, "who(4)", 0, "go(1)", 1, "who(4)", Edges.NONE, "who(5)", Edges.NONE,
                "who(6)", 0, "who(7)", 1);
    }

    private static void plainly(Edges e) {
        e.says(Edges.TERMS, "PLAINLY is: as if each SHOP always had what it WANTS (none SHUT, others apart).");
        e.from("square: d10 s4:+1:1 f5:+0:9", "shut(7)");
        e.looks("where(0, 1)", 6);
        e.looks("plainly(0, 1)", 5);
        e.looks("where(0, 2)", 8);
        e.looks("plainly(0, 2)", 6);
        e.looks("plainly(0, 3)", 7);
        e.looks("plainly(0, 6)", 0);
    }

    private static void besideAndWalking(Edges e) {
        e.says(Edges.TERMS, "BESIDE are DOORS that are one apart round about.");
        e.from("square: d10 f0:+0:1 f9:+0:1 f1:+0:1 f3:+0:1");
        e.looks("beside(0, 1)", 0);
        e.looks("beside(1, 0)", 0);
        e.looks("beside(0, 2)", 0);
        e.looks("beside(1, 2)", Edges.NONE);
        e.looks("beside(2, 3)", Edges.NONE);
        e.looks("mark(0, 1)", 2);
        e.looks("mark(1, 1)", 1);
        e.looks("mark(3, 1)", 0);
        e.says(Edges.TERMS, "WALKING from a DOOR to another one: the fewer doors of both ways about.");
        e.from("square: d10");
        e.looks("walk(0, 4)", 4);
        e.looks("walk(0, 5)", 5);
        e.looks("walk(0, 6)", 4);
        e.looks("walk(9, 0)", 1);
        e.from("square: d29");
        e.looks("walk(0, 14)", 14);
        e.looks("walk(0, 15)", 14);
        e.looks("walk(28, 0)", 1);
    }

    private static void rounds(Edges e) {
        e.says(Edges.TERMS, "A ROUND from a DOOR h by some SHOPS of a WEEK: from h to all their DOORS and back to h: the "
                + "least of: all n;");
        e.from("square: d20 f5:+0:1 f6:+0:1 f10:+0:1 f14:+0:1 f15:+0:1 f16:+0:1");
        e.looks("round(0, 4)", 20);
        // 6 up and 6 down; 5 up and 5 down; 5 up and 4 down.
        e.looks("round(0, 10)", 20);
        e.looks("round(0, 17)", 20);
        e.looks("round(0, 33)", 18);
        e.looks("round(0, 63)", 20);
        e.says(Edges.TERMS, "twice the farthest up, if all are gone to upwards;");
        e.from("square: d20 f0:+0:1 f1:+0:1 f9:+0:1 f10:+0:1 f11:+0:1");
        e.looks("round(0, 1)", 0);
        e.looks("round(0, 3)", 2);
        e.looks("round(0, 7)", 18);
        e.looks("round(0, 15)", 20);
        // Of one alone the way down is shorter, with one that is up it is not.
        e.looks("round(0, 16)", 18);
        e.looks("round(0, 18)", 20);
        e.looks("round(19, 2)", 4);
        e.says(Edges.TERMS, "twice the farthest down likewise;");
        e.from("square: d20 f0:+0:1 f19:+0:1 f11:+0:1 f10:+0:1");
        e.looks("round(0, 2)", 2);
        e.looks("round(0, 7)", 18);
        e.looks("round(0, 14)", 20);
        e.looks("round(1, 2)", 4);
        e.says(Edges.TERMS, "twice both, if some are gone to upwards, the others downwards");
        e.from("square: d20 f1:+0:1 f19:+0:1 f4:+0:1 f15:+0:1 f14:+0:1");
        e.looks("round(0, 3)", 4);
        e.looks("round(0, 15)", 18);
        e.looks("round(0, 20)", 20);
        e.says(Edges.TERMS, "(0, if all have DOOR h).");
        e.from("square: d20 f0:+0:1 f1:+0:1");
        e.looks("round(0, 1)", 0);
        e.looks("round(0, 2)", 2);
        e.looks("round(1, 2)", 0);
        e.looks("round(7, 0)", 0);
    }

    private static void notes(Edges e) {
        e.says(Edges.TERMS, "NOTES 0, 1, .. (12 at most) of a diary: in a WEEK (0 .. 99) a SHOP had a DOOR.");
        String[] eleven = new String[12];
        java.util.Arrays.fill(eleven, "note(0, 0, 0)");
        eleven[0] = "square: d10 s0:+1:1";
        e.from(eleven);
        e.inTurn("count(5)", 11, "note(99, 0, 9)", 11, "note(99, 0, 9)", Edges.FULL, "count(5)", 12);
        e.refuses("note(100, 0, 9)", Edges.BAD);
        e.refuses("note(-1, 0, 9)", Edges.BAD);
        e.says(Edges.TERMS, "A STEP FITS a SHOP's NOTES, if PLAINLY, from its DOOR in WEEK 0 as the TEXT tells it, by its "
                + "KIND and k, with that STEP (-9 .. 9), it has all of them.");
        // From 4, whatever DOOR it has now, and though the fixed one has DOOR 5.
        e.from("square: d30 s4:+1:1 f5:+0:9", "note(1, 0, 5)", "go(3)");
        e.tells("steps(0)", 1 << 10, 1);
        e.from("square: d30 s4:+1:1", "note(1, 0, 13)");
        e.tells("steps(0)", 1 << 18, 1);
        e.from("square: d30 s4:+1:1", "note(1, 0, 14)");
        e.tells("steps(0)", 0, 0);
        e.from("square: d30 s4:+1:1", "note(1, 0, 25)");
        e.tells("steps(0)", 1, 1);
        e.from("square: d30 s4:+1:1", "note(1, 0, 24)");
        e.tells("steps(0)", 0, 0);
        e.from("square: d30 s4:+1:1", "note(1, 0, 5)", "note(2, 0, 6)", "note(3, 0, 7)");
        e.tells("steps(0)", 1 << 10, 1);
        e.from("square: d30 s4:+1:1", "note(1, 0, 5)", "note(2, 0, 6)", "note(3, 0, 8)");
        e.tells("steps(0)", 0, 0);
    }
}
