/** Promises 1 to 15: rows, texts, squares. */
final class EdgesOfRows {
    private static final int BAD = Edges.BAD, FINDING = Edges.FINDING, NONE = Edges.NONE, STATE = Edges.STATE;

    private EdgesOfRows() {
    }

    static void all(Edges e) {
        newObject(e);
        row(e);
        lay(e);
        at(e);
        tear(e);
        copy(e);
        mean(e);
        text(e);
        put(e);
        faultAndSquare(e);
        about(e);
        mark(e);
        shutAndOpen(e);
    }

    private static void newObject(Edges e) {
        e.says(1, "No ROWS, TEXTS, DOORS, SHOPS, NOTES.");
        e.from();
        for (int what = 0; what <= 7; what++) {
            e.looks("count(" + what + ")", 0);
        }
        for (int i = 0; i < 6; i++) {
            e.finds("tear(" + i + ")", Edges.NOTHING);
        }
        for (int i = 0; i < 4; i++) {
            e.finds("fault(" + i + ")", Edges.NOTHING);
        }
        for (int i = 0; i < 3; i++) {
            e.finds("on(" + i + ")", Edges.NOTHING);
        }
        e.refuses("who(0)", BAD);
        e.refuses("about(0, 0)", BAD);
        e.refuses("back(1)", BAD);
        e.looks("back(0)", 0);
    }

    private static void row(Edges e) {
        e.says(2, "A ROW is there with n ints 0: n.");
        e.from("row 3: 5 6 7");
        e.inTurn("row(3, 2)", 2, "at(3, 0)", 1, "asked()", 0, "at(3, 1)", 1, "asked()", 0, "at(3, 2)", FINDING, "count(6)", 1);
        e.inTurn("row(3, 0)", 0, "at(3, 0)", FINDING, "row(3, 3)", 3, "at(3, 2)", 1, "asked()", 0);
        e.inTurn("row(0, 1)", 1, "row(5, 1)", 1, "count(6)", 3);
        e.says(2, "BAD: also n above 40;");
        e.inTurn("row(3, 40)", 40, "at(3, 39)", 1, "at(3, 40)", FINDING);
        e.refuses("row(3, 41)", BAD);
        e.refuses("row(3, max)", BAD);
        e.refuses("row(-1, 3)", BAD);
        e.refuses("row(6, 3)", BAD);
        e.says(2, "SIZE: below 0.");
        e.answers("row(3, 0)", 0);
        e.finds("row(3, -1)", Edges.SIZE);
        e.finds("row(3, min)", Edges.SIZE);
        e.refuses("row(6, -1)", BAD);
    }

    private static void lay(Edges e) {
        e.says(3, "Place i of a ROW is v: what it was, told by asked(): 1.");
        e.from(Edges.RICH);
        e.tells("lay(1, 0, 9)", 1, 7);
        e.tells("lay(1, 2, 9)", 1, 12);
        e.inTurn("lay(1, 1, max)", 1, "asked()", -3, "at(1, 1)", 1, "asked()", Integer.MAX_VALUE, "at(1, 0)", 1, "asked()", 7);
        e.says(3, "BAD;");
        e.answers("lay(5, 0, 1)", 1);
        e.refuses("lay(6, 0, 1)", BAD);
        e.refuses("lay(-1, 0, 1)", BAD);
        e.says(3, "NOTHING;");
        e.finds("lay(0, 0, 1)", Edges.NOTHING);
        e.finds("lay(0, -1, 1)", Edges.NOTHING);
        e.says(3, "BEYOND.");
        e.finds("lay(1, 3, 1)", Edges.BEYOND);
        e.finds("lay(1, -1, 1)", Edges.BEYOND);
        e.finds("lay(1, max, 1)", Edges.BEYOND);
        e.finds("lay(1, min, 1)", Edges.BEYOND);
        e.finds("lay(2, 0, 1)", Edges.BEYOND);
    }

    private static void at(Edges e) {
        e.says(4, "Place i of a ROW, told by asked(): 1.");
        e.from(Edges.RICH);
        e.looksAndTells("at(1, 0)", 1, 7);
        e.looksAndTells("at(1, 2)", 1, 12);
        e.looksAndTells("at(5, 19)", 1, 20);
        e.says(4, "BAD;");
        e.refuses("at(6, 0)", BAD);
        e.refuses("at(-1, 0)", BAD);
        e.says(4, "NOTHING;");
        e.finds("at(0, 0)", Edges.NOTHING);
        e.finds("at(4, 40)", Edges.NOTHING);
        e.says(4, "BEYOND.");
        e.finds("at(1, 3)", Edges.BEYOND);
        e.finds("at(1, -1)", Edges.BEYOND);
        e.finds("at(1, max)", Edges.BEYOND);
        e.finds("at(1, min)", Edges.BEYOND);
        e.finds("at(2, 0)", Edges.BEYOND);
    }

    private static void tear(Edges e) {
        e.says(5, "A ROW is missing: 1.");
        e.from(Edges.RICH);
        e.inTurn("count(6)", 3, "tear(1)", 1, "count(6)", 2, "at(1, 0)", FINDING, "finding()", 1, "tear(1)", FINDING);
        e.inTurn("tear(2)", 1, "tear(5)", 1, "count(6)", 1);
        e.inTurn("tear(1)", 1, "row(1, 3)", 3, "at(1, 0)", 1, "asked()", 0);
        e.says(5, "BAD;");
        e.answers("tear(5)", 1);
        e.refuses("tear(6)", BAD);
        e.refuses("tear(-1)", BAD);
        e.says(5, "NOTHING.");
        e.finds("tear(0)", Edges.NOTHING);
        e.finds("tear(4)", Edges.NOTHING);
    }

    private static void copy(Edges e) {
        e.says(6, "n places of a ROW, from one on, come to those of another one (perhaps itself) from one on, as if taken "
                + "ahead: 1.");
        e.from("row 0: 1 2 3 4 5", "row 1: 6 7 8", "row 2:");
        e.inTurn("copy(0, 3, 1, 1, 2)", 1, "at(1, 0)", 1, "asked()", 6, "at(1, 1)", 1, "asked()", 4, "at(1, 2)", 1, "asked()", 5);
        e.inTurn("copy(0, 0, 0, 1, 4)", 1, "at(0, 0)", 1, "asked()", 1, "at(0, 1)", 1, "asked()", 1, "at(0, 4)", 1, "asked()", 4);
        e.inTurn("copy(0, 1, 0, 0, 4)", 1, "at(0, 0)", 1, "asked()", 2, "at(0, 3)", 1, "asked()", 5, "at(0, 4)", 1, "asked()", 5);
        e.inTurn("copy(1, 0, 0, 2, 3)", 1, "at(0, 1)", 1, "asked()", 2, "at(0, 2)", 1, "asked()", 6, "at(0, 4)", 1, "asked()", 8);
        e.looks("copy(0, 0, 0, 0, 5)", 1);
        e.looks("copy(0, 0, 1, 0, 0)", 1);
        e.says(6, "BAD;");
        e.refuses("copy(6, 0, 0, 0, 0)", BAD);
        e.refuses("copy(-1, 0, 0, 0, 0)", BAD);
        e.refuses("copy(0, 0, 6, 0, 0)", BAD);
        e.refuses("copy(0, 0, -1, 0, 0)", BAD);
        e.says(6, "SIZE: n below 0;");
        e.finds("copy(0, 0, 1, 0, -1)", Edges.SIZE);
        e.finds("copy(0, 0, 1, 0, min)", Edges.SIZE);
        e.finds("copy(5, 9, 1, 9, -1)", Edges.SIZE);
        e.says(6, "NOTHING: either;");
        e.finds("copy(5, 0, 1, 0, 0)", Edges.NOTHING);
        e.finds("copy(1, 0, 5, 0, 0)", Edges.NOTHING);
        e.finds("copy(1, 9, 5, 9, 9)", Edges.NOTHING);
        e.finds("copy(5, 0, 4, 0, 0)", Edges.NOTHING);
        e.says(6, "BEYOND: not so many there.");
        e.answers("copy(0, 2, 1, 0, 3)", 1);
        e.finds("copy(0, 3, 1, 0, 3)", Edges.BEYOND);
        e.finds("copy(0, 2, 1, 1, 3)", Edges.BEYOND);
        e.finds("copy(0, 0, 1, 0, 4)", Edges.BEYOND);
        e.finds("copy(0, -1, 1, 0, 1)", Edges.BEYOND);
        e.finds("copy(0, 0, 1, -1, 1)", Edges.BEYOND);
        e.finds("copy(0, 0, 2, 0, 1)", Edges.BEYOND);
        e.finds("copy(2, 0, 0, 0, 1)", Edges.BEYOND);
        e.looks("copy(2, 0, 2, 0, 0)", 1);
        e.looks("copy(0, 5, 1, 3, 0)", 1);
        e.finds("copy(0, 6, 1, 3, 0)", Edges.BEYOND);
        e.finds("copy(0, 5, 1, 4, 0)", Edges.BEYOND);
        // Their sums wrap about.
        e.finds("copy(0, max, 1, 0, max)", Edges.BEYOND);
        e.finds("copy(0, 0, 1, max, 1)", Edges.BEYOND);
        e.finds("copy(0, min, 1, min, max)", Edges.BEYOND);
    }

    private static void mean(Edges e) {
        e.says(7, "The mean of a ROW's ints, cut, told by asked(): 1.");
        String[][] rows = {
            {"row 0: 1 2 5", "2"}, {"row 0: 1 2 6", "3"}, {"row 0: -1 -2 -5", "-2"}, {"row 0: -1 0", "0"}, {"row 0: 1 0", "0"},
            {"row 0: 7", "7"}, {"row 0: 0 0", "0"}, {"row 0: max max", "2147483647"}, {"row 0: min min", "-2147483648"},
            {"row 0: max min", "0"}, {"row 0:" + " max".repeat(40), "2147483647"}, {"row 0:" + " min".repeat(40), "-2147483648"},
        };
        for (String[] row : rows) {
            e.from(row[0]);
            e.looksAndTells("mean(0)", 1, Long.parseLong(row[1]));
        }
        e.says(7, "BAD;");
        e.from(Edges.RICH);
        e.answers("mean(5)", 1);
        e.refuses("mean(6)", BAD);
        e.refuses("mean(-1)", BAD);
        e.says(7, "NOTHING;");
        e.finds("mean(0)", Edges.NOTHING);
        e.says(7, "NOUGHT.");
        e.finds("mean(2)", Edges.NOUGHT);
    }

    private static void text(Edges e) {
        e.says(8, "A TEXT is there with n blanks: n.");
        e.from("text 1: d12s3");
        e.inTurn("text(1, 2)", 2, "put(1, 0, 0)", 1032, "put(1, 1, 0)", 1032, "put(1, 2, 0)", FINDING, "count(7)", 1);
        e.inTurn("text(1, 0)", 0, "put(1, 0, 0)", FINDING, "text(1, 5)", 5, "put(1, 4, 0)", 1032);
        e.inTurn("text(0, 1)", 1, "text(3, 1)", 1, "count(7)", 3);
        e.says(8, "BAD: also n above 100;");
        e.inTurn("text(1, 100)", 100, "put(1, 99, 0)", 1032, "put(1, 100, 0)", FINDING);
        e.refuses("text(1, 101)", BAD);
        e.refuses("text(1, max)", BAD);
        e.refuses("text(-1, 1)", BAD);
        e.refuses("text(4, 1)", BAD);
        e.says(8, "SIZE: below 0.");
        e.answers("text(1, 0)", 0);
        e.finds("text(1, -1)", Edges.SIZE);
        e.finds("text(1, min)", Edges.SIZE);
    }

    private static void put(Edges e) {
        e.says(9, "Byte i of a TEXT is v, cut to a byte: what it was, and 1000 more.");
        e.from("text(1, 2)");
        Object[] cuts = {0, 1000, 127, 1127, 128, 872, 255, 999, 256, 1000, -1, 999, -128, 872, -129, 1127, "max", 999, "min", 1000};
        for (int i = 0; i < cuts.length; i += 2) {
            e.inTurn("put(1, 1, " + cuts[i] + ")", 1032, "put(1, 1, 5)", cuts[i + 1], "put(1, 0, 5)", 1032);
        }
        e.says(9, "BAD;");
        e.refuses("put(4, 0, 5)", BAD);
        e.refuses("put(-1, 0, 5)", BAD);
        e.says(9, "NOTHING;");
        e.finds("put(0, 0, 5)", Edges.NOTHING);
        e.finds("put(3, 9, 5)", Edges.NOTHING);
        e.says(9, "BEYOND.");
        e.finds("put(1, 2, 5)", Edges.BEYOND);
        e.finds("put(1, -1, 5)", Edges.BEYOND);
        e.finds("put(1, max, 5)", Edges.BEYOND);
        e.finds("put(1, min, 5)", Edges.BEYOND);
    }

    private static void faultAndSquare(Edges e) {
        e.says(10, "A FAULT of a TEXT;");
        e.fromRichAnd("text 0: d12s3", "text 2:  d30 ");
        e.looks("fault(0)", 5);
        e.inTurn("fault(0)", 5, "fault(0)", 5, "fault(2)", NONE, "fault(0)", 5, "fault(1)", 5, "square(0)", STATE, "fault(0)", 5);
        e.says(10, "NONE: there is none.");
        e.looks("fault(2)", NONE);
        e.looks("fault(3)", NONE);
        e.says(10, "BAD;");
        e.refuses("fault(4)", BAD);
        e.refuses("fault(-1)", BAD);
        e.says(10, "NOTHING.");
        e.from(Edges.RICH);
        e.finds("fault(0)", Edges.NOTHING);
        e.finds("fault(2)", Edges.NOTHING);
        e.says(11, "A SQUARE by a TEXT (anew; WEEK 0, none SHUT; NOTES, kept WEEKS go): how many SHOPS.");
        e.fromRichAnd("text 0: d10", "text 2: d30s29:+1:9s28:+0:8");
        e.inTurn("square(0)", 0, "count(0)", 10, "count(1)", 0, "count(2)", 0, "count(4)", 0, "count(5)", 0, "on(1)", FINDING,
                "finding()", 1, "on(2)", FINDING, "count(6)", 3, "count(7)", 4, "asked()", 12, "who(9)", NONE, "who(10)", BAD);
        e.inTurn("square(2)", 2, "count(0)", 30, "count(1)", 2, "count(2)", 0, "who(29)", 0, "who(28)", 1, "go(1)", 1, "who(0)", 0);
        e.inTurn("square(3)", 7, "count(2)", 0, "who(0)", 0, "who(18)", 6, "open(13)", STATE);
        squareBehindSquare(e);
        e.says(11, "BAD;");
        e.refuses("square(4)", BAD);
        e.refuses("square(-1)", BAD);
        e.says(11, "NOTHING;");
        e.from(Edges.RICH);
        e.finds("square(0)", Edges.NOTHING);
        e.says(11, "STATE: a FAULT.");
        e.refuses("square(1)", STATE);
        e.says(11, "(STATE behind NOTHING.)");
        e.from("text 1: d12s3");
        e.finds("square(0)", Edges.NOTHING);
        e.refuses("square(1)", STATE);
    }

    /** Nothing of an earlier one is left: no SHOP, k, order, DOOR told ahead, kept WEEK, SHUT DOOR. */
    private static void squareBehindSquare(Edges e) {
        e.from("text 0: d10n5:+1:9:2f4:+0:8f3:+0:7", "text 1: d10f9:+0:1s5:+1:1s3:-1:2", "text 2: d20s5:+1:1", "square(0)",
                "keep(0)", "keep(1)", "keep(2)", "shut(9)", "note(0, 2, 9)");
        e.inTurn("square(1)", 3, "on(0)", FINDING, "on(1)", FINDING, "on(2)", FINDING, "count(4)", 0, "count(5)", 0);
        e.inTurn("square(2)", 1, "square(2)", 1, "about(0, 4)", 1, "asked()", 0, "go(2)", 2, "who(7)", 0, "count(3)", 0);
        for (String between : new String[] {"square(0)", "square(2)", "fault(0)", "fault(2)"}) {
            // The least age goes last, whoever went last ahead of it.
            e.from("text 0: d10n5:+1:9:2f4:+0:8f3:+0:7", "text 1: d10f9:+0:1s5:-1:2s3:+1:3", "text 2: d20s5:+1:1", "square(0)",
                    "square(1)", between, between);
            e.inTurn("square(1)", 3, "about(0, 4)", 1, "asked()", 0, "wants(0)", 9, "asked()", 9, "wants(1)", 4, "asked()", 3,
                    "wants(2)", 4, "asked()", 4, "count(3)", 0, "count(0)", 10);
            e.inTurn("square(1)", 3, "square(1)", 3, "square(0)", 3, "go(1)", 1, "who(6)", 0, "who(4)", 1, "who(3)", 2);
        }
    }

    private static void about(Edges e) {
        e.says(12, "Of a SHOP: 0 its KIND, 1 the DOOR it has now, 2 its STEP, 3 its AGE, 4 k (0: none), 5 its DOOR in WEEK 0 "
                + "as the TEXT tells it, told by asked(): 1.");
        e.from("square: d30 s0:+0:1 p29:-9:99:9 o4:+9:50:2", "go(1)");
        int[][] due = {{0, 0, 0, 1, 0, 0}, {5, 20, -9, 99, 9, 29}, {4, 13, 9, 50, 2, 4}};
        for (int s = 0; s < 3; s++) {
            for (int what = 0; what <= 5; what++) {
                e.looksAndTells("about(" + s + ", " + what + ")", 1, due[s][what]);
            }
        }
        e.says(12, "BAD.");
        e.refuses("about(3, 0)", BAD);
        e.refuses("about(-1, 0)", BAD);
        e.refuses("about(0, 6)", BAD);
        e.refuses("about(0, -1)", BAD);
        e.from();
        e.refuses("about(0, 0)", BAD);
    }

    private static void marksByWeeks(Edges e, String shop, int kind, int... due) {
        for (int w = 0; w < due.length; w++) {
            e.from("square: d10 " + shop, "go(" + w + ")");
            e.looks("mark(0, " + kind + ")", due[w]);
        }
    }

    private static void mark(Edges e) {
        e.says(13, "What a SHOP that IS of a KIND tells: a FIXED one how many SHOPS there are BESIDE it now,");
        e.from("square: d10 f0:+0:1 f9:+0:1 s1:+0:1 s3:+0:1 f5:+0:1");
        e.looks("mark(0, 1)", 2);
        e.looks("mark(1, 1)", 1);
        e.looks("mark(4, 1)", 0);
        // None there: no DOOR 0 of a SHOP that is not.
        for (String alone : new String[] {"f1:+0:1", "f9:+0:1", "f0:+0:1"}) {
            e.from("square: d10 " + alone);
            e.looks("mark(0, 1)", 0);
        }
        e.says(13, "a SHY one how many others WANT what it WANTS,");
        e.from("square: d10 y0:+1:1 s2:-1:1 f1:+0:1 y3:-2:1 s9:+1:1 y8:+0:1");
        e.looks("mark(0, 2)", 3);
        e.looks("mark(3, 2)", 3);
        e.looks("mark(5, 2)", 0);
        for (String alone : new String[] {"y9:+1:1", "y0:-1:1", "y0:+0:1"}) {
            e.from("square: d10 " + alone);
            e.looks("mark(0, 2)", 0);
        }
        e.says(13, "a SLEEPER (DREAMER, too) how many WEEKS from now on till one in which w modulo k is k less 1 (0: now),");
        marksByWeeks(e, "n0:+1:1:2", 3, 1, 0, 1, 0);
        marksByWeeks(e, "n0:+1:1:9", 3, 8, 7, 6, 5, 4, 3, 2, 1, 0, 8);
        marksByWeeks(e, "p0:+1:1:3", 3, 2, 1, 0, 2);
        e.says(13, "a TURNER how many WEEKS from now on till its GOING is the other one (also if its STEP is 0),");
        marksByWeeks(e, "o0:+1:1:2", 4, 2, 1, 2, 1, 2);
        marksByWeeks(e, "o0:-0:1:3", 4, 3, 2, 1, 3, 2, 1, 3);
        marksByWeeks(e, "o0:+1:1:9", 4, 9, 8, 7, 6, 5, 4, 3, 2, 1, 9);
        e.says(13, "a DREAMER how far, in all, it goes in k WEEKS, told as that (may be below 0) and 1000 more.");
        marksByWeeks(e, "p0:+9:1:2", 5, 1000, 1000);
        marksByWeeks(e, "p0:+9:1:9", 5, 1063, 1063, 1063, 1063, 1063, 1063, 1063, 1063, 1063, 1063);
        marksByWeeks(e, "p0:-9:1:9", 5, 937, 937);
        marksByWeeks(e, "p0:-1:1:3", 5, 999, 999, 999, 999);
        marksByWeeks(e, "p0:+0:1:3", 5, 1000);
        e.says(13, "BAD: also KIND 0;");
        e.from(Edges.RICH);
        e.refuses("mark(0, 0)", BAD);
        e.refuses("mark(0, -1)", BAD);
        e.refuses("mark(0, 6)", BAD);
        e.refuses("mark(-1, 1)", BAD);
        e.refuses("mark(7, 1)", BAD);
        e.says(13, "UNLIKE.");
        for (int kind = 1; kind <= 5; kind++) {
            e.finds("mark(0, " + kind + ")", Edges.UNLIKE);
        }
        e.finds("mark(4, 5)", Edges.UNLIKE);
        e.finds("mark(6, 4)", Edges.UNLIKE);
    }

    private static void shutAndOpen(Edges e) {
        e.says(14, "A DOOR is SHUT: how many are.");
        e.from("square: d30 s0:+1:1");
        e.inTurn("shut(0)", 1, "shut(29)", 2, "shut(14)", 3, "count(4)", 3, "image(0)", 3, "at(0, 1)", 1,
                "asked()", 1 + (1 << 29) + (1 << 14));
        e.says(14, "BAD;");
        e.refuses("shut(30)", BAD);
        e.refuses("shut(-1)", BAD);
        e.refuses("shut(min)", BAD);
        e.from();
        e.refuses("shut(0)", BAD);
        e.says(14, "STATE: it is already;");
        e.from("square: d30 s0:+1:1", "shut(0)");
        e.refuses("shut(0)", STATE);
        e.answers("shut(1)", 2);
        e.says(14, "FULL: 3.");
        e.from("square: d30 s0:+1:1", "shut(0)", "shut(1)", "shut(2)");
        e.refuses("shut(3)", Edges.FULL);
        e.says(14, "(FULL last.)");
        e.refuses("shut(2)", STATE);
        e.refuses("shut(30)", BAD);
        e.says(15, "A DOOR is open again: how many are SHUT.");
        e.inTurn("open(1)", 2, "open(2)", 1, "open(0)", 0, "count(4)", 0, "shut(1)", 1);
        e.says(15, "BAD;");
        e.refuses("open(30)", BAD);
        e.refuses("open(-1)", BAD);
        e.says(15, "STATE: it is not SHUT.");
        e.refuses("open(3)", STATE);
        e.refuses("open(29)", STATE);
        e.inTurn("open(1)", 2, "open(1)", STATE);
    }
}
