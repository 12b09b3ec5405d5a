/** Promises 34 to 44: new shops, diaries, rents, mending. */
final class EdgesOfShops {
    private static final int BAD = Edges.BAD, NONE = Edges.NONE, STATE = Edges.STATE, FULL = Edges.FULL;
    private static final int ALL_STEPS = (1 << 19) - 1;

    private EdgesOfShops() {
    }

    static void all(Edges e) {
        joins(e);
        quiet(e);
        busy(e);
        note(e);
        back(e);
        steps(e);
        kinds(e);
        rent(e);
        dearest(e);
        mends(e);
        worst(e);
    }

    private static void joins(Edges e) {
        e.says(34, "A new SHOP of KIND 0 at a DOOR from now on, of a STEP (-9 .. 9): the SHOPS (bits) with which it would have "
                + "one DOOR ever, PLAINLY, as if all were of KIND 0 from now on.");
        // The fixed one and the sleeper go on by their STEPS.
        e.from("square: d12 s0:+9:1 f6:-9:1 n1:+3:1:2");
        // 9: none, 18 (6 by 12), 6 apart.
        e.looks("joins(0, 9)", 0b011);
        e.looks("joins(6, 9)", 0b010);
        e.looks("joins(7, 9)", 0b100);
        e.looks("joins(11, 9)", 0b000);
        // -9: 18, none, 12 (none) apart.
        e.looks("joins(6, -9)", 0b011);
        e.looks("joins(0, -9)", 0b001);
        e.looks("joins(1, -9)", 0b100);
        e.looks("joins(3, -9)", 0b000);
        e.from("square: d11 f0:+0:1 f1:+1:1 f2:+2:1 f3:+3:1 f4:+4:1 f5:+5:1 f6:+6:1");
        e.looks("joins(0, 7)", 127);
        e.looks("joins(7, 6)", 63);
        e.looks("joins(6, 6)", 127);
        e.from("square: d10 s0:+1:1", "go(1)");
        e.looks("joins(1, 1)", 1);
        e.looks("joins(0, 1)", 0);
        e.from("square: d10");
        e.looks("joins(9, 0)", 0);
        e.says(34, "BAD.");
        e.refuses("joins(10, 0)", BAD);
        e.refuses("joins(-1, 0)", BAD);
        e.refuses("joins(0, 10)", BAD);
        e.refuses("joins(0, -10)", BAD);
        e.from();
        e.refuses("joins(0, 0)", BAD);
    }

    private static void quiet(Edges e) {
        e.says(35, "The first DOOR and STEP (DOORS 0 .., of each STEPS -9 .. 9) of a new SHOP that would so never have one DOOR "
                + "with any, as 100 times the DOOR and STEP and 9 together; how many such pairs by asked().");
        e.from("square: d10");
        e.looksAndTells("quiet()", 0, 190);
        e.from("square: d30");
        e.looksAndTells("quiet()", 0, 570);
        // 29 is prime: only its own STEP, at any other DOOR.
        e.from("square: d29 s0:+9:1");
        e.looksAndTells("quiet()", 118, 28);
        e.from("square: d29 s0:-9:1");
        e.looksAndTells("quiet()", 100, 28);
        e.from("square: d29 s1:-9:1");
        e.looksAndTells("quiet()", 0, 28);
        e.from("square: d29 s28:+1:1", "go(1)");
        e.looksAndTells("quiet()", 110, 28);
        e.says(35, "NONE: none.");
        e.from("square: d29 s0:+1:1 s1:+2:1", "about(1, 3)");
        e.refuses("quiet()", NONE);
        e.says(35, "STATE: no SQUARE.");
        e.from("text 0: d10");
        e.refuses("quiet()", STATE);
        e.inTurn("square(0)", 0, "quiet()", 0);
    }

    private static void busy(Edges e) {
        e.says(36, "The pair that would so have one DOOR with most SHOPS (the first); with how many by asked().");
        e.from("square: d10");
        e.looksAndTells("busy()", 0, 0);
        e.from("square: d29 s0:+9:1");
        e.looksAndTells("busy()", 0, 1);
        // At DOOR 0 a STEP of -9 is alike to its own and leaves it out; -8 does not.
        e.from("square: d29 s1:-9:1");
        e.looksAndTells("busy()", 1, 1);
        e.from("square: d29 s0:+1:1 s1:+1:1 s2:+1:1 s3:+1:1 s4:+1:1 s5:+1:1 s6:-9:1");
        e.looksAndTells("busy()", 1, 7);
        // 9 is 1, 13, 5 and 2 apart from their STEPS: DOORS any, any, by fives, by twos; no STEP ahead of it has all.
        e.from("square: d30 s11:+8:1 s6:-4:1 s15:+4:1 s8:+7:1");
        e.looksAndTells("busy()", 18, 4);
        e.says(36, "STATE.");
        e.from("text 0: d10");
        e.refuses("busy()", STATE);
        e.inTurn("square(0)", 0, "busy()", 0);
    }

    private static String[] withNotes(int many) {
        String[] script = new String[many + 1];
        java.util.Arrays.fill(script, "note(0, 0, 0)");
        script[0] = "square: d30 s0:+1:1 s1:+1:1";
        return script;
    }

    private static void note(Edges e) {
        e.says(37, "A NOTE: its number.");
        e.from(withNotes(0));
        e.inTurn("note(0, 0, 0)", 0, "note(99, 1, 29)", 1, "count(5)", 2, "note(0, 0, 0)", 2);
        e.says(37, "BAD (a WEEK 0 .. 99);");
        e.refuses("note(-1, 0, 0)", BAD);
        e.refuses("note(100, 0, 0)", BAD);
        e.refuses("note(0, -1, 0)", BAD);
        e.refuses("note(0, 2, 0)", BAD);
        e.refuses("note(0, 0, -1)", BAD);
        e.refuses("note(0, 0, 30)", BAD);
        e.from();
        e.refuses("note(0, 0, 0)", BAD);
        e.says(37, "FULL.");
        e.from(withNotes(11));
        e.answers("note(0, 0, 0)", 11);
        e.from(withNotes(12));
        e.refuses("note(0, 0, 0)", FULL);
        e.refuses("note(100, 0, 0)", BAD);
        e.inTurn("back(11)", 1, "note(0, 0, 0)", 11);
    }

    private static void back(Edges e) {
        e.says(38, "NOTES from number n on go: how many went.");
        e.from("square: d30 s0:+1:1", "note(1, 0, 1)", "note(1, 0, 2)", "note(1, 0, 3)");
        e.inTurn("back(0)", 3, "count(5)", 0, "steps(0)", ALL_STEPS);
        e.inTurn("back(1)", 2, "count(5)", 1, "steps(0)", 1 << 10);
        e.inTurn("back(2)", 1, "count(5)", 2, "steps(0)", 0);
        e.looks("back(3)", 0);
        e.from(withNotes(12));
        e.inTurn("back(12)", 0, "back(0)", 12, "back(0)", 0);
        e.says(38, "BAD.");
        e.refuses("back(13)", BAD);
        e.refuses("back(-1)", BAD);
        e.from(withNotes(3));
        e.refuses("back(4)", BAD);
        e.from();
        e.looks("back(0)", 0);
        e.refuses("back(1)", BAD);
    }

    private static void steps(Edges e) {
        e.says(39, "STEPS that FIT a SHOP's NOTES (bits: STEP -9 is bit 0, .., 9 bit 18);");
        e.from(withNotes(0));
        e.answers("steps(0)", ALL_STEPS);
        e.from(withNotes(1));
        e.answers("steps(0)", ALL_STEPS);
        e.from("square: d30 s0:+1:1 s5:+1:1", "note(1, 0, 9)", "note(0, 1, 6)");
        e.answers("steps(0)", 1 << 18);
        e.answers("steps(1)", 0);
        e.from("square: d30 s0:+1:1", "note(1, 0, 21)");
        e.answers("steps(0)", 1);
        // 99 times a STEP is 9 times it by 30: STEPS that are alike by 10.
        e.from("square: d30 s0:+1:1", "note(99, 0, 9)");
        e.answers("steps(0)", 1 | 1 << 10);
        e.says(39, "how many by asked().");
        e.looksAndTells("steps(0)", 1 | 1 << 10, 2);
        e.from(withNotes(1));
        e.looksAndTells("steps(1)", ALL_STEPS, 19);
        e.from("square: d30 s0:+1:1", "note(0, 0, 1)");
        e.looksAndTells("steps(0)", 0, 0);
        e.says(39, "BAD.");
        e.refuses("steps(1)", BAD);
        e.refuses("steps(-1)", BAD);
        e.from();
        e.refuses("steps(0)", BAD);
    }

    private static void fitting(Edges e, int due, int many, String... notes) {
        String[] script = new String[notes.length + 1];
        script[0] = "square: d30 s0:+1:1";
        for (int i = 0; i < notes.length; i++) {
            script[i + 1] = "note(" + notes[i].replace(" ", ", 0, ") + ")";
        }
        e.from(script);
        e.looksAndTells("kinds(0)", due, many);
    }

    private static void kinds(Edges e) {
        e.says(40, "The KIND (0 SHOP, 3 SLEEPER, 4 TURNER, 5 DREAMER) and k (2 .. 9; of a SHOP 0) by which, with its own STEP, a "
                + "SHOP PLAINLY has all its NOTES, the first (by KINDS, then k), as 10 times the KIND and k;");
        fitting(e, 0, 25);
        fitting(e, 32, 1, "2 1");
        fitting(e, 39, 1, "8 8", "9 8");
        fitting(e, 42, 2, "2 2", "3 1");
        fitting(e, 49, 1, "9 9", "10 8");
        fitting(e, 52, 1, "2 0");
        fitting(e, 48, 2, "8 8", "9 7");
        fitting(e, 59, 1, "8 8", "9 7", "10 8");
        // A SHOP's own KIND does not count.
        e.from("square: d30 f0:+1:1", "note(20, 0, 20)");
        e.tells("kinds(0)", 0, 1);
        e.says(40, "how many such by asked().");
        fitting(e, 0, 25, "1 1");
        fitting(e, 35, 5, "9 8");
        e.from("square: d30 s7:+0:1", "note(99, 0, 7)");
        e.looksAndTells("kinds(0)", 0, 25);
        e.says(40, "NONE: none.");
        e.from("square: d30 s0:+1:1", "about(0, 3)", "note(0, 0, 1)");
        e.refuses("kinds(0)", NONE);
        e.from("square: d30 s7:+0:1", "about(0, 5)", "note(99, 0, 8)");
        e.refuses("kinds(0)", NONE);
        e.says(40, "BAD.");
        e.refuses("kinds(1)", BAD);
        e.refuses("kinds(-1)", BAD);
        e.from();
        e.refuses("kinds(0)", BAD);
    }

    private static void rent(Edges e) {
        e.says(41, "RENT of a SHOP: of a ROW (a number 0 .. 99 for each DOOR: who passes) what its DOORS have from now on through "
                + "n (1 .. 60) WEEKS (now is the first), together.");
        e.from("square: d10 s0:+1:1 f5:+0:1", "row 0: 1 2 4 8 16 99 0 0 0 0");
        e.looks("rent(0, 0, 1)", 1);
        e.looks("rent(0, 0, 2)", 3);
        e.looks("rent(0, 0, 5)", 31);
        e.looks("rent(0, 1, 1)", 99);
        // Shop 0 takes DOOR 5 ahead of shop 1, which goes on.
        e.looks("rent(0, 0, 6)", 130);
        e.looks("rent(0, 1, 6)", 495);
        // From WEEK 5 on it is pushed on, a DOOR a WEEK: 6 to 60, five times about and 6, 7, 8, 9, 0.
        e.looks("rent(0, 1, 60)", 1146);
        e.from("square: d10 f5:+0:1", "row 0: 0 0 0 0 0 99 0 0 0 0", "go(400)");
        e.looks("rent(0, 0, 60)", 5940);
        e.says(41, "BAD;");
        e.refuses("rent(0, 0, 0)", BAD);
        e.refuses("rent(0, 0, 61)", BAD);
        e.refuses("rent(0, 1, 1)", BAD);
        e.refuses("rent(0, -1, 1)", BAD);
        e.refuses("rent(6, 0, 1)", BAD);
        e.refuses("rent(-1, 0, 1)", BAD);
        e.says(41, "NOTHING;");
        e.finds("rent(1, 0, 1)", Edges.NOTHING);
        e.says(41, "SIZE: not as many as DOORS;");
        for (int size : new int[] {0, 9, 11, 40}) {
            e.from("square: d10 f5:+0:1", "row(0, " + size + ")");
            e.finds("rent(0, 0, 1)", Edges.SIZE);
        }
        e.from("square: d10 f5:+0:1", "row 0: -1 100");
        e.finds("rent(0, 0, 1)", Edges.SIZE);
        e.says(41, "UNLIKE.");
        e.from("square: d10 f5:+0:1", "row 0: 0 99 0 99 0 3 0 99 0 99");
        e.looks("rent(0, 0, 1)", 3);
        for (String place : new String[] {"0, -1", "0, 100", "9, -1", "9, 100", "4, max", "4, min"}) {
            e.from("square: d10 f5:+0:1", "row(0, 10)", "lay(0, " + place + ")");
            e.finds("rent(0, 0, 1)", Edges.UNLIKE);
        }
    }

    private static void dearest(Edges e) {
        e.says(42, "Of all SHOPS that of the greatest RENT (the first);");
        e.from("square: d10 f4:+0:1 f5:+0:1 f6:+0:1", "row 0: 0 0 0 0 7 8 8 0 0 0", "row 1: 0 0 0 0 8 8 8 0 0 0",
                "row 2: 0 0 0 0 0 0 1 0 0 0");
        e.answers("dearest(0, 1)", 1);
        e.answers("dearest(0, 60)", 1);
        e.answers("dearest(1, 1)", 0);
        e.answers("dearest(2, 1)", 2);
        e.says(42, "its part of all RENTS by upper(), lower().");
        e.inTurn("dearest(0, 60)", 1, "upper()", 8, "lower()", 23, "dearest(1, 1)", 0, "upper()", 1, "lower()", 3,
                "dearest(2, 60)", 2, "upper()", 1, "lower()", 1, "asked()", 0);
        e.says(42, "BAD;");
        e.refuses("dearest(0, 0)", BAD);
        e.refuses("dearest(0, 61)", BAD);
        e.refuses("dearest(6, 1)", BAD);
        e.refuses("dearest(-1, 1)", BAD);
        e.says(42, "NOTHING;");
        e.finds("dearest(3, 1)", Edges.NOTHING);
        e.says(42, "SIZE;");
        for (int size : new int[] {0, 9, 11, 40}) {
            e.from("square: d10 f5:+0:1", "row(0, " + size + ")");
            e.finds("dearest(0, 1)", Edges.SIZE);
        }
        e.says(42, "UNLIKE;");
        for (String place : new String[] {"0, -1", "0, 100", "9, -1", "9, 100"}) {
            e.from("square: d10 f5:+0:1", "row(0, 10)", "lay(0, " + place + ")");
            e.finds("dearest(0, 1)", Edges.UNLIKE);
        }
        e.says(42, "NOUGHT: no SHOPS, all RENTS are 0.");
        e.from("square: d10", "row 0: 1 1 1 1 1 1 1 1 1 1");
        e.finds("dearest(0, 1)", Edges.NOUGHT);
        e.from("square: d10 s0:+1:1", "row 0: 0 0 1 0 0 0 0 0 0 0");
        e.finds("dearest(0, 2)", Edges.NOUGHT);
        e.answers("dearest(0, 3)", 0);
    }

    private static void mends(Edges e) {
        e.says(43, "What comes of it: if a DOOR more were SHUT from now on: how many SHOPS have another DOOR after n (1 .. 60) "
                + "WEEKS;");
        e.from("square: d10 f4:+0:3 f5:+0:2 f6:+0:1 f8:+0:1");
        e.answers("mends(4, 1)", 3);
        e.answers("mends(6, 1)", 1);
        e.answers("mends(5, 60)", 2);
        e.answers("mends(0, 60)", 0);
        e.answers("mends(9, 60)", 0);
        e.says(43, "the first WEEK from now on in which any has by asked() (NONE: none till then).");
        e.from(EdgesOfErrands.DREAMER);
        e.looksAndTells("mends(22, 60)", 1, 60);
        e.looksAndTells("mends(22, 59)", 0, NONE);
        e.looksAndTells("mends(1, 1)", 1, 1);
        // It has DOOR 2 now and goes: it comes there again in two WEEKS.
        e.looksAndTells("mends(2, 1)", 0, NONE);
        e.looksAndTells("mends(2, 2)", 1, 2);
        // Another DOOR in WEEK 1, the same one in WEEK 2.
        e.from("square: d10 s0:+1:1 s4:-1:9");
        e.looksAndTells("mends(1, 1)", 1, 1);
        e.looksAndTells("mends(1, 2)", 0, 1);
        e.says(43, "BAD;");
        e.refuses("mends(1, 0)", BAD);
        e.refuses("mends(1, 61)", BAD);
        e.refuses("mends(10, 1)", BAD);
        e.refuses("mends(-1, 1)", BAD);
        e.says(43, "STATE: it is SHUT already;");
        e.from("square: d10 s0:+1:1", "shut(1)", "shut(2)");
        e.refuses("mends(1, 1)", STATE);
        e.looksAndTells("mends(3, 1)", 1, 1);
        e.looksAndTells("mends(4, 1)", 0, NONE);
        e.says(43, "FULL: 3.");
        e.from("square: d10 s0:+1:1", "shut(1)", "shut(2)", "shut(3)");
        e.refuses("mends(4, 1)", FULL);
        e.says(43, "(FULL last.)");
        e.refuses("mends(3, 1)", STATE);
        e.refuses("mends(10, 1)", BAD);
        e.refuses("mends(4, 61)", BAD);
    }

    private static void worst(Edges e) {
        e.says(44, "The DOOR that, if it were SHUT from now on, so makes most SHOPS have another DOOR after n (1 .. 60) WEEKS (the "
                + "first; of those that are not SHUT);");
        e.from("square: d10 f5:+0:1");
        e.answers("worst(1)", 5);
        e.answers("worst(60)", 5);
        e.from("square: d10 f9:+0:1");
        e.answers("worst(1)", 9);
        e.from("square: d10 f5:+0:1 f7:+0:1");
        e.answers("worst(1)", 5);
        e.from("square: d10 f5:+0:1 f7:+0:1", "shut(5)");
        e.answers("worst(1)", 6);
        e.from("square: d10", "shut(0)", "shut(1)");
        e.answers("worst(60)", 2);
        e.says(44, "how many by asked().");
        e.looksAndTells("worst(60)", 2, 0);
        e.from("square: d10 f5:+0:1 f7:+0:1", "shut(5)");
        e.looksAndTells("worst(1)", 6, 2);
        e.from("square: d10 f0:+0:7 f1:+0:6 f2:+0:5 f3:+0:4 f4:+0:3 f5:+0:2 f6:+0:1");
        e.looksAndTells("worst(1)", 0, 7);
        e.looksAndTells("worst(60)", 0, 7);
        e.says(44, "BAD;");
        e.refuses("worst(0)", BAD);
        e.refuses("worst(61)", BAD);
        e.refuses("worst(-1)", BAD);
        e.says(44, "STATE: no SQUARE;");
        e.from("text 0: d10");
        e.refuses("worst(1)", STATE);
        e.refuses("worst(60)", STATE);
        e.inTurn("square(0)", 0, "worst(1)", 0);
        e.says(44, "FULL.");
        e.from("square: d10 f5:+0:1", "shut(0)", "shut(1)", "shut(2)");
        e.refuses("worst(1)", FULL);
        e.inTurn("open(0)", 2, "worst(1)", 5);
        e.says(44, "(FULL last.)");
        e.refuses("worst(0)", BAD);
        e.refuses("worst(61)", BAD);
    }
}
