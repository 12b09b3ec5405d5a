/** Promises 29 to 33: errands. */
final class EdgesOfErrands {
    private static final int BAD = Edges.BAD;
    /** Two up, one down: from WEEK 2 on it first has DOOR m (3 or more) in 3 m less 6 WEEKS: 12 in 30, 22 in 60. */
    static final String[] DREAMER = {"square: d30 p0:+1:1:3", "go(2)"};
    private static final String SEVEN =
            "square: d30 f0:+0:1 f1:+0:1 f2:+0:1 f3:+0:1 f4:+0:1 f5:+0:1 f6:+0:1";

    private EdgesOfErrands() {
    }

    static void all(Edges e) {
        walk(e);
        round(e);
        best(e);
        errands(e);
        agree(e);
    }

    private static void walk(Edges e) {
        e.says(29, "WALKING from a DOOR to another one.");
        e.from("square: d30");
        e.looks("walk(0, 0)", 0);
        e.looks("walk(0, 29)", 1);
        e.looks("walk(29, 0)", 1);
        e.looks("walk(0, 14)", 14);
        e.looks("walk(0, 15)", 15);
        e.looks("walk(0, 16)", 14);
        e.looks("walk(16, 0)", 14);
        e.says(29, "BAD.");
        e.refuses("walk(30, 0)", BAD);
        e.refuses("walk(0, 30)", BAD);
        e.refuses("walk(-1, 0)", BAD);
        e.refuses("walk(0, -1)", BAD);
        e.from();
        e.refuses("walk(0, 0)", BAD);
    }

    private static void round(Edges e) {
        e.says(30, "A ROUND from a DOOR by a set of SHOPS now.");
        e.from("square: d10 s0:+1:1 s9:+1:1", "go(3)");
        e.looks("round(3, 1)", 0);
        e.looks("round(3, 2)", 2);
        e.looks("round(3, 3)", 2);
        e.looks("round(9, 1)", 8);
        e.looks("round(9, 3)", 8);
        e.looks("round(0, 0)", 0);
        e.says(30, "BAD.");
        e.refuses("round(10, 1)", BAD);
        e.refuses("round(-1, 1)", BAD);
        e.refuses("round(0, 4)", BAD);
        e.refuses("round(0, -1)", BAD);
        e.refuses("round(0, max)", BAD);
        e.refuses("round(0, min)", BAD);
        e.from(SEVEN);
        e.looks("round(0, 127)", 12);
        e.refuses("round(0, 128)", BAD);
        e.from("square: d10");
        e.looks("round(9, 0)", 0);
        e.refuses("round(9, 1)", BAD);
    }

    private static void best(Edges e) {
        e.says(31, "Of the WEEKS 0 to n (0 .. 60) from now on that of the least ROUND from a DOOR by a set of SHOPS (the "
                + "first);");
        e.from(DREAMER);
        e.answers("best(22, 1, 60)", 60);
        e.answers("best(22, 1, 59)", 57);
        e.answers("best(22, 1, 0)", 0);
        e.answers("best(2, 1, 60)", 0);
        e.answers("best(1, 1, 1)", 1);
        e.answers("best(1, 1, 0)", 0);
        // Alike in all WEEKS: the first.
        e.answers("best(22, 0, 60)", 0);
        e.says(31, "that ROUND by asked().");
        e.looksAndTells("best(22, 1, 60)", 60, 0);
        e.looksAndTells("best(22, 1, 59)", 57, 2);
        e.looksAndTells("best(22, 1, 0)", 0, 20);
        e.looksAndTells("best(17, 1, 0)", 0, 30);
        e.looksAndTells("best(22, 0, 60)", 0, 0);
        e.says(31, "BAD.");
        e.refuses("best(22, 1, 61)", BAD);
        e.refuses("best(22, 1, -1)", BAD);
        e.refuses("best(30, 1, 1)", BAD);
        e.refuses("best(-1, 1, 1)", BAD);
        e.refuses("best(0, 2, 1)", BAD);
        e.refuses("best(0, -1, 1)", BAD);
        e.refuses("best(0, min, 1)", BAD);
    }

    private static void errands(Edges e) {
        e.says(32, "Each of a set of SHOPS is gone to in one of the WEEKS 0 to n (0 .. 30) from now on, those of one WEEK by one "
                + "ROUND: the least WALKING of all ROUNDS together;");
        e.from(DREAMER);
        e.answers("errands(12, 1, 30, 0)", 0);
        e.answers("errands(12, 1, 29, 0)", 2);
        e.answers("errands(12, 1, 0, 0)", 20);
        e.answers("errands(12, 0, 30, 0)", 0);
        e.from("square: d20 s8:-1:1 f4:+0:9", "row(0, 40)", "keep(0)");
        // One ROUND to 4 takes in all that is up to there.
        e.answers("errands(0, 3, 4, 0)", 8);
        e.answers("errands(0, 3, 3, 0)", 10);
        e.answers("errands(0, 3, 0, 0)", 16);
        e.says(32, "the first such WEEKS (by SHOPS of the set, the least number first) come to a ROW (anew).");
        e.inTurn("errands(0, 3, 4, 0)", 8, "at(0, 0)", 1, "asked()", 4, "at(0, 1)", 1, "asked()", 4, "at(0, 2)", Edges.FINDING,
                "finding()", 2, "count(2)", 0);
        // In WEEK 7 it is at home, in WEEK 4 it costs nothing more, and that is sooner.
        e.inTurn("errands(0, 3, 30, 0)", 8, "at(0, 0)", 1, "asked()", 4, "at(0, 1)", 1, "asked()", 4);
        e.inTurn("errands(0, 2, 30, 5)", 8, "at(5, 0)", 1, "asked()", 0, "at(5, 1)", Edges.FINDING, "count(6)", 2);
        e.inTurn("errands(0, 0, 30, 0)", 0, "at(0, 0)", Edges.FINDING, "finding()", 2);
        e.from(DREAMER);
        e.inTurn("errands(12, 1, 30, 0)", 0, "at(0, 0)", 1, "asked()", 30);
        e.inTurn("errands(12, 1, 29, 0)", 2, "at(0, 0)", 1, "asked()", 27);
        e.inTurn("errands(2, 1, 30, 0)", 0, "at(0, 0)", 1, "asked()", 0);
        e.from(SEVEN);
        e.inTurn("errands(0, 127, 30, 1)", 12, "at(1, 0)", 1, "asked()", 0, "at(1, 6)", 1, "asked()", 0, "at(1, 7)", Edges.FINDING);
        e.inTurn("errands(0, 64, 30, 1)", 12, "at(1, 0)", 1, "asked()", 0, "at(1, 1)", Edges.FINDING);
        // Each of seven comes home in a WEEK of its own.
        e.from("square: d30s1:+1:1s2:+1:1s3:+1:1s4:+1:1s5:+1:1s6:+1:1s7:+1:1");
        e.inTurn("errands(0, 127, 30, 1)", 0, "at(1, 0)", 1, "asked()", 29, "at(1, 1)", 1, "asked()", 28, "at(1, 2)", 1, "asked()", 27,
                "at(1, 3)", 1, "asked()", 26, "at(1, 4)", 1, "asked()", 25, "at(1, 5)", 1, "asked()", 24, "at(1, 6)", 1, "asked()", 23);
        e.says(32, "BAD.");
        e.from(Edges.RICH);
        e.refuses("errands(0, 1, 31, 1)", BAD);
        e.refuses("errands(0, 1, -1, 1)", BAD);
        e.refuses("errands(0, 128, 1, 1)", BAD);
        e.refuses("errands(0, -1, 1, 1)", BAD);
        e.refuses("errands(20, 1, 1, 1)", BAD);
        e.refuses("errands(-1, 1, 1, 1)", BAD);
        e.refuses("errands(0, 1, 1, 6)", BAD);
        e.refuses("errands(0, 1, 1, -1)", BAD);
    }

    private static void agree(Edges e) {
        e.says(33, "Of the WEEKS 0 to n (0 .. 60) from now on and all SHOPS, by WEEKS, then SHOPS, the first to which the "
                + "WALKING of two people from DOORS d and e together is least, as 10 times the WEEK and the SHOP;");
        e.from(DREAMER);
        e.answers("agree(22, 22, 60)", 600);
        e.answers("agree(22, 22, 59)", 570);
        e.answers("agree(22, 22, 0)", 0);
        e.answers("agree(29, 1, 60)", 10);
        e.answers("agree(29, 1, 0)", 0);
        e.from(SEVEN);
        e.answers("agree(6, 6, 60)", 6);
        e.answers("agree(7, 7, 60)", 6);
        e.answers("agree(29, 29, 60)", 0);
        // Between them all are alike: the first.
        e.answers("agree(0, 6, 60)", 0);
        e.answers("agree(6, 0, 60)", 0);
        e.answers("agree(3, 5, 60)", 3);
        e.says(33, "the WALKING by asked().");
        e.looksAndTells("agree(6, 6, 60)", 6, 0);
        e.looksAndTells("agree(7, 7, 60)", 6, 2);
        e.looksAndTells("agree(0, 6, 60)", 0, 6);
        e.looksAndTells("agree(29, 7, 60)", 0, 8);
        e.from(DREAMER);
        e.looksAndTells("agree(22, 22, 59)", 570, 2);
        e.looksAndTells("agree(17, 17, 0)", 0, 30);
        e.says(33, "BAD;");
        e.refuses("agree(22, 22, 61)", BAD);
        e.refuses("agree(22, 22, -1)", BAD);
        e.refuses("agree(30, 0, 1)", BAD);
        e.refuses("agree(0, 30, 1)", BAD);
        e.refuses("agree(-1, 0, 1)", BAD);
        e.refuses("agree(0, -1, 1)", BAD);
        e.from();
        e.refuses("agree(0, 0, 0)", BAD);
        e.says(33, "NOUGHT: no SHOPS.");
        e.from("square: d10");
        e.finds("agree(0, 9, 60)", Edges.NOUGHT);
        e.refuses("agree(0, 9, 61)", BAD);
        e.refuses("agree(0, 10, 60)", BAD);
    }
}
