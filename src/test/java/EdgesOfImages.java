/** Promises 45 to 53: images, what is told. */
final class EdgesOfImages {
    private static final int BAD = Edges.BAD, STATE = Edges.STATE, FINDING = Edges.FINDING, NONE = Edges.NONE;

    private EdgesOfImages() {
    }

    static void all(Edges e) {
        image(e);
        gone(e);
        goneUnlike(e);
        asked(e);
        fractions(e);
        count(e);
        findings(e);
        digest(e);
    }

    private static void image(Edges e) {
        e.says(45, "An image of now comes to a ROW (anew): the WEEK, what is SHUT (bits), the DOORS of all SHOPS: how many "
                + "numbers.");
        e.from("square: d30 s29:+1:1 f7:+0:1", "row(5, 40)", "shut(0)", "shut(29)", "go(1)");
        e.inTurn("image(5)", 4, "at(5, 0)", 1, "asked()", 1, "at(5, 1)", 1, "asked()", 1 + (1 << 29), "at(5, 2)", 1, "asked()", 1,
                "at(5, 3)", 1, "asked()", 7, "at(5, 4)", FINDING, "finding()", 2, "count(2)", 1);
        e.inTurn("image(0)", 4, "count(6)", 2);
        e.from("square: d10");
        e.inTurn("image(0)", 2, "at(0, 0)", 1, "asked()", 0, "at(0, 1)", 1, "asked()", 0, "at(0, 2)", FINDING);
        e.from("square: d10 f9:+0:1 f8:+0:1 f7:+0:1 f6:+0:1 f5:+0:1 f4:+0:1 f0:+0:1");
        e.inTurn("image(0)", 9, "at(0, 8)", 1, "asked()", 0, "at(0, 2)", 1, "asked()", 9, "at(0, 9)", FINDING);
        e.says(45, "BAD;");
        e.refuses("image(6)", BAD);
        e.refuses("image(-1)", BAD);
        e.says(45, "STATE: no SQUARE.");
        e.from("row 0: 5");
        e.refuses("image(0)", STATE);
        e.refuses("image(5)", STATE);
    }

    private static void gone(Edges e) {
        e.says(46, "All is as an image in a ROW tells: the WEEK.");
        e.from("square: d30 s0:+1:1 n1:+1:1:3", "row 0: 100000 536870913 29 0", "row 1: 0 0 0 1", "note(1, 0, 1)", "keep(1)",
                "shut(5)");
        e.inTurn("gone(0)", 100000, "count(2)", 100000, "count(4)", 2, "open(5)", STATE, "who(29)", 0, "who(0)", 1, "who(1)", NONE,
                "open(0)", 1, "open(29)", 0, "count(5)", 1, "on(1)", 0);
        e.inTurn("gone(0)", 100000, "gone(1)", 0, "count(2)", 0, "count(4)", 0, "who(0)", 0, "who(1)", 1, "go(1)", 1, "who(2)", 1);
        // 100000 by 3 leaves 1: it sleeps in WEEK 100001, not now.
        e.inTurn("gone(0)", 100000, "mark(1, 3)", 1, "about(1, 5)", 1, "asked()", 1);
        e.from("square: d10", "row 0: 7 512");
        e.inTurn("gone(0)", 7, "count(2)", 7, "count(4)", 1, "open(9)", 0);
        // From an image at any Monday all goes on as it went.
        e.from("square: d10 o0:+1:1:4 f5:+0:9", "shut(7)", "go(3)");
        e.inTurn("image(3)", 4, "go(1)", 4, "who(4)", 0, "go(1)", 5, "who(3)", 0, "gone(3)", 3, "who(3)", 0, "go(1)", 4, "who(4)", 0,
                "go(1)", 5, "who(3)", 0, "gone(3)", 3, "count(4)", 1);
        e.says(46, "BAD;");
        e.refuses("gone(6)", BAD);
        e.refuses("gone(-1)", BAD);
        e.says(46, "STATE;");
        e.from("row 0: 0 0");
        e.refuses("gone(0)", STATE);
        e.says(46, "NOTHING;");
        e.from("square: d10 s0:+1:1");
        e.finds("gone(0)", Edges.NOTHING);
        e.says(46, "SIZE;");
        for (String row : new String[] {"row 0:", "row 0: 0 0", "row 0: 0 0 0 1", "row(0, 40)"}) {
            e.from("square: d10 s0:+1:1", row);
            e.finds("gone(0)", Edges.SIZE);
        }
        e.from("square: d10", "row 0: 0");
        e.finds("gone(0)", Edges.SIZE);
        e.says(46, "(In this order.)");
        e.from();
        e.refuses("gone(6)", BAD);
        e.refuses("gone(0)", STATE);
        e.from("row 0: -1");
        e.refuses("gone(0)", STATE);
        e.from("square: d10 s0:+1:1", "row 0: -1 -1");
        e.finds("gone(1)", Edges.NOTHING);
        e.finds("gone(0)", Edges.SIZE);
    }

    private static void goneUnlike(Edges e) {
        e.says(46, "UNLIKE: a number that can't be (a WEEK 0 .. 100000; three DOORS at most SHUT; SHOPS at unlike DOORS).");
        String[] fine = {
            "0 0 0 1", "100000 0 0 1", "0 7 0 1", "0 1 0 9", "0 512 9 8", "0 896 9 8", "0 0 9 0",
        };
        for (String row : fine) {
            e.from("square: d10 s0:+1:1 s1:+1:1", "row 0: " + row);
            e.answers("gone(0)", row.startsWith("100000") ? 100000 : 0);
        }
        String[] wrong = {
            "-1 0 0 1", "100001 0 0 1", "min 0 0 1", "max 0 0 1", "0 15 0 1", "0 1024 0 1", "0 -1 0 1", "0 min 0 1", "0 max 0 1",
            "0 960 0 1", "0 0 10 1", "0 0 0 10", "0 0 -1 1", "0 0 0 -1", "0 0 0 0", "0 0 9 9", "0 0 32 33", "0 0 max 1", "0 0 0 min",
        };
        for (String row : wrong) {
            e.from("square: d10 s0:+1:1 s1:+1:1", "keep(0)", "go(3)", "shut(7)", "row 0: " + row);
            e.finds("gone(0)", Edges.UNLIKE);
        }
        // All of thirty DOORS, one bit more, and the sign.
        e.from("square: d30 s0:+1:1", "row 0: 0 536870912 29");
        e.answers("gone(0)", 0);
        e.from("square: d30 s0:+1:1", "row 0: 0 1073741824 29");
        e.finds("gone(0)", Edges.UNLIKE);
        e.from("square: d30 s0:+1:1", "row 0: 0 min 29");
        e.finds("gone(0)", Edges.UNLIKE);
    }

    private static void asked(Edges e) {
        e.says(47, "What the latest lay(), at(), mean(), about(), wants(), meets(), never(), best(), agree(), quiet(), busy(), "
                + "steps(), kinds(), mends(), worst() that was not refused (nor NONE) told;");
        e.from("square: d20 s0:+1:1 s7:-2:5 n12:+1:3:3", "row 0: 4 6", "row 1: 1 1 1 1 1 1 1 1 1 1 1 1 1 1 1 1 1 1 1 1", "mean(0)");
        e.inTurn("asked()", 5, "lay(0, 0, 8)", 1, "asked()", 4, "at(0, 1)", 1, "asked()", 6, "about(1, 2)", 1, "asked()", -2,
                "wants(1)", 5, "asked()", 5, "meets(0, 1, 7)", 0, "asked()", 20, "never(0, 1, 7)", 0, "asked()", 1,
                "best(10, 1, 0)", 0, "asked()", 20, "agree(11, 13, 0)", 2, "asked()", 2, "busy()", 4, "asked()", 3,
                "steps(1)", (1 << 19) - 1, "asked()", 19, "kinds(1)", 0, "asked()", 25, "worst(1)", 1, "asked()", 1,
                "mends(0, 1)", 0, "asked()", NONE);
        // These tell nothing by it.
        String[] others = {
            "row(2, 3)", "copy(1, 0, 0, 0, 2)", "tear(0)", "text(0, 3)", "put(3, 0, 100)", "fault(3)", "square(3)", "mark(2, 3)",
            "shut(3)", "go(5)", "doors(2)", "who(0)", "where(0, 5)", "plainly(0, 5)", "again()", "keep(0)", "beside(0, 1)",
            "comes(0, 5)", "walk(0, 5)", "round(0, 7)", "errands(0, 7, 5, 2)", "joins(0, 5)", "note(0, 0, 0)", "back(0)",
            "rent(1, 0, 5)", "dearest(1, 5)", "image(2)", "count(0)", "finding()", "findings(1)", "upper()", "lower()", "digest()",
        };
        for (String call : others) {
            e.toldStays(call, 5);
        }
        // Refused, or NONE: it stays.
        for (String call : new String[] {
            "lay(0, 2, 9)", "at(5, 0)", "mean(5)", "about(0, 6)", "wants(3)", "meets(0, 0, 0)", "never(0, 0, 0)", "best(0, 1, 61)",
            "agree(0, 0, 61)", "steps(3)", "kinds(3)", "mends(0, 61)", "worst(61)"}) {
            e.toldStays(call, 5);
        }
        e.from("square: d29 s0:+1:1 s1:+1:1 s2:+2:1", "about(0, 3)", "note(0, 0, 5)");
        e.refuses("meets(0, 1, 0)", NONE);
        e.refuses("quiet()", NONE);
        e.refuses("kinds(0)", NONE);
        e.toldStays("quiet()", 1);
        e.says(47, "0 before.");
        e.from();
        e.looks("asked()", 0);
    }

    private static void fractions(Edges e) {
        e.says(48, "The upper number of the fraction that was told last;");
        e.from("square: d10 f4:+0:1 f5:+0:1", "row 0: 0 0 0 0 6 4 0 0 0 0", "row 1: 0 0 0 0 1 2 0 0 0 0", "row(2, 10)");
        e.inTurn("dearest(0, 7)", 0, "upper()", 3, "dearest(1, 1)", 1, "upper()", 2, "dearest(2, 1)", FINDING, "upper()", 2,
                "dearest(2, 61)", BAD, "upper()", 2, "rent(0, 0, 1)", 6, "mean(0)", 1, "upper()", 2);
        e.says(48, "0 before.");
        e.looks("upper()", 0);
        e.from();
        e.looks("upper()", 0);
        e.says(49, "Its lower number;");
        e.from("square: d10 f4:+0:1 f5:+0:1", "row 0: 0 0 0 0 6 4 0 0 0 0", "row 1: 0 0 0 0 1 2 0 0 0 0", "row(2, 10)");
        e.inTurn("dearest(0, 7)", 0, "lower()", 5, "dearest(1, 1)", 1, "lower()", 3, "dearest(2, 1)", FINDING, "lower()", 3,
                "dearest(2, 61)", BAD, "lower()", 3, "square(3)", 2, "lower()", 3);
        e.says(49, "1 before.");
        e.looks("lower()", 1);
        e.from();
        e.looks("lower()", 1);
    }

    private static void count(Edges e) {
        e.says(50, "0 DOORS, 1 SHOPS, 2 the WEEK, 3 SLEEPERS (DREAMERS, too), 4 SHUT DOORS, 5 NOTES, 6 ROWS, 7 TEXTS that are "
                + "there.");
        e.from("square: d20 s0:+1:1 n7:-2:5:3 p12:+1:3:3 o1:+1:1:2 f2:+1:1 y9:+0:1", "shut(19)", "shut(18)", "go(4)",
                "note(0, 0, 0)", "row(0, 0)", "row(5, 3)", "row(3, 3)", "text(0, 0)");
        int[] due = {20, 6, 4, 2, 2, 1, 3, 2};
        for (int what = 0; what <= 7; what++) {
            e.looks("count(" + what + ")", due[what]);
        }
        e.from("row(0, 0)", "row(1, 0)", "row(2, 0)", "row(3, 0)", "row(4, 0)", "row(5, 0)", "text(0, 0)", "text(1, 0)", "text(2, 0)",
                "text(3, 0)");
        e.looks("count(6)", 6);
        e.looks("count(7)", 4);
        e.says(50, "BAD.");
        e.refuses("count(8)", BAD);
        e.refuses("count(-1)", BAD);
        e.refuses("count(min)", BAD);
    }

    private static void findings(Edges e) {
        e.says(51, "The latest FINDING (0 before any).");
        e.from();
        e.looks("finding()", 0);
        e.inTurn("tear(0)", FINDING, "finding()", 1, "row(0, 0)", 0, "at(0, 0)", FINDING, "finding()", 2, "mean(0)", FINDING,
                "finding()", 4, "row(0, -1)", FINDING, "finding()", 5, "row(6, -1)", BAD, "again()", STATE, "row(1, 1)", 1,
                "finding()", 5, "tear(5)", FINDING, "finding()", 1);
        e.says(52, "How often a FINDING (1 .. 5) was answered.");
        for (int f = 1; f <= 5; f++) {
            e.looks("findings(" + f + ")", 0);
        }
        e.from("square: d10 s0:+1:1", "mark(0, 1)", "mark(0, 2)", "tear(0)", "at(0, 9)", "text(0, 1)", "put(0, 1, 1)", "row(0, 0)",
                "mean(0)", "mean(0)", "mean(0)", "text(1, -1)", "row(6, 0)", "shut(10)", "quiet()", "who(5)");
        int[] due = {2, 1, 2, 3, 1};
        for (int f = 1; f <= 5; f++) {
            e.looks("findings(" + f + ")", due[f - 1]);
        }
        e.inTurn("square(3)", 1, "findings(4)", 3, "finding()", 5);
        e.says(52, "BAD.");
        e.refuses("findings(0)", BAD);
        e.refuses("findings(6)", BAD);
        e.refuses("findings(-1)", BAD);
        e.refuses("findings(max)", BAD);
    }

    private static long digestOf(int... numbers) {
        long h = 17;
        for (int v : numbers) {
            h = 31 * h + v;
        }
        return h;
    }

    private static void digest(Edges e) {
        e.says(53, "h = 17; then h = 31 h + v for each v: count() 0 to 7; of each SHOP about() 0 to 5; what is SHUT (bits); of "
                + "each NOTE WEEK, SHOP, DOOR; of each kept WEEK its WEEK (-1: missing); of each ROW its size (-1: missing) and "
                + "places, of each TEXT likewise.");
        e.from();
        e.looks("digest()", digestOf(0, 0, 0, 0, 0, 0, 0, 0, 0, -1, -1, -1, -1, -1, -1, -1, -1, -1, -1, -1, -1, -1));
        e.from("text 3: d30", "square(3)");
        e.looks("digest()", digestOf(30, 0, 0, 0, 0, 0, 0, 1, 0, -1, -1, -1, -1, -1, -1, -1, -1, -1, -1, -1, -1, 3, 100, 51, 48));
        e.from("text 0: d10p9:-1:7:2", "square(0)", "shut(0)", "shut(9)", "note(99, 0, 3)", "note(0, 0, 4)", "keep(2)", "go(3)",
                "keep(0)", "go(1)", "row 5: min 8 max", "row(0, 0)", "text(1, 2)", "put(1, 0, 128)", "text(0, 0)");
        // 9 is SHUT: 8, wants 9 (SHUT) and goes on up over 0 to 1, wants 0 and goes on down over 9 to 8, and so on.
        e.looks("digest()", digestOf(10, 1, 4, 1, 2, 2, 2, 2, 5, 1, -1, 7, 2, 9, 1 + (1 << 9), 99, 0, 3, 0, 0, 4, 3, -1, 0,
                0, -1, -1, -1, -1, 3, Integer.MIN_VALUE, 8, Integer.MAX_VALUE, 0, 2, -128, 32, -1, -1));
        e.from("text 0: d10s9:+0:1s8:+0:2", "square(0)", "note(1, 1, 2)", "keep(1)", "text(0, 0)");
        e.looks("digest()", digestOf(10, 2, 0, 0, 0, 1, 0, 1, 0, 9, 0, 1, 0, 9, 0, 8, 0, 2, 0, 8, 0, 1, 1, 2, -1, 0, -1,
                -1, -1, -1, -1, -1, -1, 0, -1, -1, -1));
        e.from("text 0: d10p9:-1:7:2", "square(0)", "shut(0)", "shut(9)", "note(99, 0, 3)", "note(0, 0, 4)", "keep(2)", "go(3)",
                "keep(0)", "go(1)", "row 5: min 8 max", "row(0, 0)", "text(1, 2)", "put(1, 0, 128)", "text(0, 0)");
        e.inTurn("tear(5)", 1, "digest()", digestOf(10, 1, 4, 1, 2, 2, 1, 2, 5, 1, -1, 7, 2, 9, 1 + (1 << 9), 99, 0, 3, 0, 0, 4,
                3, -1, 0, 0, -1, -1, -1, -1, -1, 0, 2, -128, 32, -1, -1));
    }
}
