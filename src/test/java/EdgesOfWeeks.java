/** Promises 16 to 28: weeks; when, by remainders. */
final class EdgesOfWeeks {
    private static final int BAD = Edges.BAD, NONE = Edges.NONE, STATE = Edges.STATE;

    private EdgesOfWeeks() {
    }

    static void all(Edges e) {
        go(e);
        doorsAndWho(e);
        wants(e);
        where(e);
        plainly(e);
        again(e);
        keep(e);
        on(e);
        beside(e);
        comes(e);
        meets(e);
        never(e);
    }

    private static void go(Edges e) {
        e.says(16, "n (0 .. 400) WEEKS go by: the WEEK then.");
        e.from("square: d11 s0:+1:1");
        e.looks("go(0)", 0);
        e.inTurn("go(1)", 1, "who(1)", 0, "go(0)", 1, "who(1)", 0, "go(9)", 10, "who(10)", 0, "go(1)", 11, "who(0)", 0);
        // 400 is 4 more than 36 times 11.
        e.inTurn("go(400)", 400, "who(4)", 0, "count(2)", 400, "go(400)", 800, "who(8)", 0);
        e.says(16, "BAD;");
        e.refuses("go(-1)", BAD);
        e.refuses("go(401)", BAD);
        e.refuses("go(min)", BAD);
        e.refuses("go(max)", BAD);
        e.says(16, "STATE: there is no SQUARE;");
        e.from();
        e.refuses("go(0)", STATE);
        e.refuses("go(400)", STATE);
        e.from("text 0: d10");
        e.inTurn("go(1)", STATE, "square(0)", 0, "go(1)", 1);
        e.says(16, "SPENT: WEEK 100000 would be passed.");
        e.from("square: d11 s0:+1:1", "row 0: 99600 0 0", "gone(0)");
        e.inTurn("go(400)", 100000, "go(0)", 100000, "go(1)", Edges.SPENT, "count(2)", 100000);
        e.from("square: d11 s0:+1:1", "row 0: 99601 0 0", "gone(0)");
        e.refuses("go(400)", Edges.SPENT);
        e.answers("go(399)", 100000);
    }

    private static void doorsAndWho(Edges e) {
        e.says(17, "The DOORS of all SHOPS come to a ROW (anew): how many.");
        e.from("square: d30 s29:+1:1 s0:-1:1 f7:+1:1", "row(5, 40)", "row 0: 5", "go(1)");
        e.inTurn("doors(5)", 3, "at(5, 0)", 1, "asked()", 0, "at(5, 1)", 1, "asked()", 29, "at(5, 2)", 1, "asked()", 7,
                "at(5, 3)", Edges.FINDING, "finding()", 2);
        e.inTurn("doors(0)", 3, "at(0, 2)", 1, "asked()", 7, "count(6)", 2);
        e.from("square: d10", "row 0: 5");
        e.inTurn("doors(0)", 0, "at(0, 0)", Edges.FINDING, "finding()", 2, "doors(1)", 0, "count(6)", 2);
        e.from("row 0: 5");
        e.inTurn("doors(0)", 0, "mean(0)", Edges.FINDING, "finding()", 4);
        e.from("square: d10 f9:+0:1 f8:+0:1 f7:+0:1 f6:+0:1 f5:+0:1 f4:+0:1 f0:+0:1");
        e.inTurn("doors(2)", 7, "at(2, 0)", 1, "asked()", 9, "at(2, 6)", 1, "asked()", 0, "at(2, 7)", Edges.FINDING);
        e.says(17, "BAD.");
        e.refuses("doors(6)", BAD);
        e.refuses("doors(-1)", BAD);
        e.says(18, "The SHOP that has a DOOR now;");
        e.from("square: d30 s29:+1:1 s0:-1:1", "go(1)");
        e.looks("who(0)", 0);
        e.looks("who(29)", 1);
        e.says(18, "NONE: none.");
        e.refuses("who(1)", NONE);
        e.refuses("who(28)", NONE);
        e.says(18, "BAD.");
        e.refuses("who(30)", BAD);
        e.refuses("who(-1)", BAD);
        e.from();
        e.refuses("who(0)", BAD);
    }

    private static void wants(Edges e) {
        e.says(19, "The DOOR that a SHOP WANTS next; the one that it gets by asked().");
        e.from("square: d10 s9:+1:1 f0:+0:9 s1:-1:1", "shut(9)");
        e.looksAndTells("wants(0)", 0, 1);
        e.looksAndTells("wants(1)", 0, 0);
        e.looksAndTells("wants(2)", 0, 8);
        e.says(19, "BAD.");
        e.refuses("wants(3)", BAD);
        e.refuses("wants(-1)", BAD);
        e.from();
        e.refuses("wants(0)", BAD);
    }

    private static void where(Edges e) {
        e.says(20, "The DOOR of a SHOP n (0 .. 400) WEEKS from now.");
        e.from("square: d11 s0:+1:1", "go(3)");
        e.answers("where(0, 0)", 3);
        e.answers("where(0, 1)", 4);
        e.answers("where(0, 8)", 0);
        e.answers("where(0, 400)", 7);
        e.from("square: d11 s0:+1:1", "row 0: 100000 0 0", "gone(0)");
        e.answers("where(0, 400)", 4);
        e.says(20, "(It stays now.)");
        e.from("square: d11 s0:+1:1 f1:+0:9", "shut(2)", "keep(1)");
        e.looks("where(0, 0)", 0);
        e.looks("where(0, 1)", 3);
        e.looks("where(0, 400)", 6);
        e.inTurn("where(0, 1)", 3, "where(0, 1)", 3, "who(0)", 0, "count(2)", 0);
        e.says(20, "BAD.");
        e.from(Edges.RICH);
        e.refuses("where(0, -1)", BAD);
        e.refuses("where(0, 401)", BAD);
        e.refuses("where(7, 0)", BAD);
        e.refuses("where(-1, 0)", BAD);
        e.refuses("where(0, min)", BAD);
    }

    private static void plainly(Edges e) {
        e.says(21, "The same PLAINLY, from the DOOR it has now, n 0 .. 1000000000.");
        e.from("square: d29 s0:+9:1 s1:-9:1 f2:+9:1");
        e.looks("plainly(0, 0)", 0);
        // 10 to the ninth is 18 by 29; 9 times 18 is 17.
        e.looks("plainly(0, 1000000000)", 17);
        e.looks("plainly(0, 999999999)", 8);
        e.looks("plainly(1, 1000000000)", 13);
        e.looks("plainly(2, 1000000000)", 2);
        e.from("square: d10 s0:+1:1 f1:+0:9", "go(1)");
        e.looks("plainly(0, 0)", 2);
        e.looks("plainly(0, 1)", 3);
        e.from("square: d10 n0:+1:1:3", "go(2)");
        e.looks("plainly(0, 1)", 2);
        e.looks("plainly(0, 2)", 3);
        e.says(21, "BAD.");
        e.refuses("plainly(0, -1)", BAD);
        e.refuses("plainly(0, 1000000001)", BAD);
        e.refuses("plainly(0, max)", BAD);
        e.refuses("plainly(1, 0)", BAD);
        e.refuses("plainly(-1, 0)", BAD);
    }

    private static void again(Edges e) {
        e.says(22, "The first WEEK behind now (how many from now on, 1 .. 600) in which all SHOPS have the DOORS that they "
                + "have now.");
        e.from("square: d10 f0:+1:1");
        e.looks("again()", 1);
        e.from("square: d10");
        e.looks("again()", 1);
        e.from("square: d10 s0:+5:1");
        e.looks("again()", 2);
        e.from("square: d30 s0:+1:1 s1:+1:1", "go(7)");
        e.looks("again()", 30);
        // Each time round the old one pushes the fixed one up by one: 24 WEEKS each, 25 times.
        e.from("square: d25 f5:+0:1 s10:-1:9");
        e.looks("again()", 600);
        e.says(22, "NONE: none.");
        // In WEEK 601 they have their DOORS again.
        e.from("square: d11 p4:+6:8:8 s7:-9:8");
        e.refuses("again()", NONE);
        e.inTurn("go(400)", 400, "go(201)", 601, "who(4)", 0, "who(7)", 1);
        // Never: the DOOR is SHUT.
        e.from("square: d10 f5:+0:1", "shut(5)");
        e.refuses("again()", NONE);
        e.says(22, "STATE: no SQUARE.");
        e.from("text 0: d10");
        e.refuses("again()", STATE);
        e.inTurn("square(0)", 0, "again()", 1);
    }

    private static void keep(Edges e) {
        e.says(23, "All is kept in a place (0 .. 2; DOORS, the WEEK, what is SHUT): the WEEK.");
        e.from("square: d10 s0:+1:1", "shut(7)", "go(3)");
        for (int k = 0; k <= 2; k++) {
            e.inTurn("keep(" + k + ")", 3, "go(2)", 5, "open(7)", 0, "shut(8)", 1, "on(" + k + ")", 3, "count(2)", 3,
                    "who(3)", 0, "shut(7)", STATE, "open(8)", STATE);
        }
        e.inTurn("keep(0)", 3, "go(1)", 4, "keep(1)", 4, "go(1)", 5, "keep(2)", 5, "on(0)", 3, "who(3)", 0, "on(1)", 4,
                "who(4)", 0, "on(2)", 5, "who(5)", 0);
        e.inTurn("keep(0)", 3, "go(1)", 4, "keep(0)", 4, "go(1)", 5, "on(0)", 4);
        e.says(23, "BAD;");
        e.refuses("keep(3)", BAD);
        e.refuses("keep(-1)", BAD);
        e.says(23, "STATE: no SQUARE.");
        e.from();
        e.refuses("keep(0)", STATE);
        e.refuses("keep(2)", STATE);
    }

    private static void on(Edges e) {
        e.says(24, "All is as it was kept: the WEEK.");
        e.from("square: d10 s0:+1:1", "note(0, 0, 0)", "keep(2)", "go(400)", "shut(1)", "note(1, 0, 1)", "row 0: 8", "at(0, 0)");
        // What is not kept stays: NOTES, ROWS, what was told.
        e.inTurn("on(2)", 0, "count(2)", 0, "count(4)", 0, "who(0)", 0, "count(5)", 2, "count(6)", 1, "asked()", 8);
        e.inTurn("on(2)", 0, "go(1)", 1, "on(2)", 0, "who(0)", 0);
        e.says(24, "BAD;");
        e.refuses("on(3)", BAD);
        e.refuses("on(-1)", BAD);
        e.says(24, "NOTHING.");
        e.finds("on(0)", Edges.NOTHING);
        e.finds("on(1)", Edges.NOTHING);
        e.inTurn("square(3)", 1, "on(2)", Edges.FINDING, "finding()", 1);
        e.from();
        e.finds("on(2)", Edges.NOTHING);
    }

    private static void beside(Edges e) {
        e.says(25, "How many WEEKS from now on (0: now) two SHOPS first are BESIDE each other (0 .. 600).");
        e.from("square: d10 s0:+0:1 s9:+0:1 s5:+1:1");
        e.looks("beside(0, 1)", 0);
        e.looks("beside(1, 0)", 0);
        e.looks("beside(2, 1)", 3);
        e.looks("beside(1, 2)", 3);
        // The old one pushes the fixed one up by one every 28 WEEKS, till it is BESIDE the one of age 99.
        e.from("square: d30 f4:+0:1 s16:-1:9 f27:+0:99");
        e.looks("beside(0, 2)", 600);
        e.says(25, "NONE: not till then.");
        e.from("square: d30 f4:+0:1 s17:-1:9 f27:+0:99");
        e.refuses("beside(0, 2)", NONE);
        e.inTurn("go(1)", 1, "beside(0, 2)", 600);
        e.says(25, "BAD: also one SHOP.");
        e.refuses("beside(0, 0)", BAD);
        e.refuses("beside(2, 2)", BAD);
        e.refuses("beside(0, 3)", BAD);
        e.refuses("beside(3, 0)", BAD);
        e.refuses("beside(-1, 0)", BAD);
        e.refuses("beside(0, -1)", BAD);
    }

    private static void comes(Edges e) {
        e.says(26, "How many WEEKS from now on (0: now) a SHOP first has a DOOR (0 .. 600).");
        e.from("square: d10 s0:+1:1", "go(2)");
        e.looks("comes(0, 2)", 0);
        e.looks("comes(0, 3)", 1);
        e.looks("comes(0, 1)", 9);
        e.looks("comes(0, 0)", 8);
        e.from("square: d30 f5:+0:1 s25:-1:9");
        e.looks("comes(0, 26)", 600);
        e.says(26, "NONE: not till then.");
        e.from("square: d30 f5:+0:1 s26:-1:9");
        e.refuses("comes(0, 26)", NONE);
        e.inTurn("go(1)", 1, "comes(0, 26)", 600);
        e.from("square: d10 f5:+0:1", "shut(5)");
        e.looks("comes(0, 5)", 0);
        e.inTurn("go(1)", 1, "comes(0, 5)", NONE, "comes(0, 6)", 0);
        e.says(26, "BAD.");
        e.refuses("comes(1, 0)", BAD);
        e.refuses("comes(-1, 0)", BAD);
        e.refuses("comes(0, 10)", BAD);
        e.refuses("comes(0, -1)", BAD);
    }

    private static void meets(Edges e) {
        e.says(27, "PLAINLY, as if both were of KIND 0 from now on: the first of all WEEKS from now on (0: now) in which SHOP q "
                + "is x DOORS up from SHOP s (x 0 .. n less 1);");
        e.from("square: d30 s0:+0:1 s1:+1:1 f2:+1:9 s29:-9:1");
        e.looksAndTells("meets(0, 1, 1)", 0, 30);
        e.looksAndTells("meets(0, 1, 29)", 28, 30);
        e.looksAndTells("meets(0, 1, 0)", 29, 30);
        e.looksAndTells("meets(1, 0, 29)", 0, 30);
        e.looksAndTells("meets(1, 0, 0)", 29, 30);
        // The fixed one is of a STEP of 1, too.
        e.looksAndTells("meets(1, 2, 1)", 0, 1);
        e.refuses("meets(1, 2, 2)", NONE);
        e.looksAndTells("meets(0, 2, 0)", 28, 30);
        e.from("square: d30 s0:+0:1 n1:+1:1:2", "go(2)");
        e.looksAndTells("meets(0, 1, 2)", 0, 30);
        e.looksAndTells("meets(0, 1, 4)", 2, 30);
        e.says(27, "the number of WEEKS from each such to the next one by asked().");
        e.from("square: d18 s0:+9:1 s1:-9:1 s2:+0:1 s3:+3:1");
        e.looksAndTells("meets(0, 1, 1)", 0, 1);
        e.looksAndTells("meets(0, 2, 2)", 0, 2);
        e.looksAndTells("meets(0, 2, 11)", 1, 2);
        e.looksAndTells("meets(0, 3, 15)", 1, 3);
        e.says(27, "NONE: never.");
        e.refuses("meets(0, 1, 0)", NONE);
        e.refuses("meets(0, 1, 17)", NONE);
        e.refuses("meets(0, 2, 10)", NONE);
        e.says(27, "BAD: also one SHOP.");
        e.refuses("meets(0, 0, 0)", BAD);
        e.refuses("meets(0, 4, 0)", BAD);
        e.refuses("meets(4, 0, 0)", BAD);
        e.refuses("meets(-1, 0, 0)", BAD);
        e.refuses("meets(0, -1, 0)", BAD);
        e.refuses("meets(0, 1, 18)", BAD);
        e.refuses("meets(0, 1, -1)", BAD);
    }

    private static void never(Edges e) {
        e.says(28, "Whether it can never be so: the greatest number that divides n and how far both STEPS are apart, told by "
                + "asked(): 1;");
        e.from("square: d18 s0:+9:1 s1:-9:1 s2:+0:1 s3:+9:1");
        e.looksAndTells("never(0, 1, 0)", 1, 18);
        e.looksAndTells("never(0, 1, 17)", 1, 18);
        e.looksAndTells("never(0, 2, 10)", 1, 9);
        // None apart: it is n.
        e.looksAndTells("never(0, 3, 0)", 1, 18);
        e.says(28, "0: it can be.");
        e.looksAndTells("never(0, 1, 1)", 0, 18);
        e.looksAndTells("never(0, 2, 11)", 0, 9);
        e.looksAndTells("never(2, 0, 7)", 0, 9);
        e.looksAndTells("never(0, 3, 3)", 0, 18);
        e.from("square: d29 s0:+9:1 s1:-9:1");
        e.looksAndTells("never(0, 1, 0)", 0, 1);
        e.looksAndTells("never(0, 1, 28)", 0, 1);
        e.says(28, "BAD: also one SHOP.");
        e.refuses("never(0, 0, 0)", BAD);
        e.refuses("never(0, 2, 0)", BAD);
        e.refuses("never(2, 0, 0)", BAD);
        e.refuses("never(-1, 0, 0)", BAD);
        e.refuses("never(0, 1, 29)", BAD);
        e.refuses("never(0, 1, -1)", BAD);
    }
}
