/** "Terms", ahead of 1: what is refused, and in which order, FINDINGS, fractions, sets. */
final class EdgesOfTerms {
    private EdgesOfTerms() {
    }

    static void all(Edges e) {
        order(e);
        none(e);
        refusedChangesNothing(e);
        findings(e);
        fractions(e);
        sets(e);
    }

    private static void order(Edges e) {
        e.says(Edges.TERMS, "Refused is, the first of these that fits, in this order: BAD -1 (a number that is none, or "
                + "not as told), FULL -2, STATE -4 (not now), SPENT -6 (more than told), FINDING -3 (finding() tells "
                + "which), unless a call says so otherwise.");
        e.number("BAD", -1, DoorRounds.BAD);
        e.number("FULL", -2, DoorRounds.FULL);
        e.number("STATE", -4, DoorRounds.STATE);
        e.number("SPENT", -6, DoorRounds.SPENT);
        e.number("FINDING", -3, DoorRounds.FINDING);
        // In a new object STATE or a FINDING fits each of these, too.
        e.from();
        String[] bad = {
            "row(6, -1)", "lay(6, -1, 0)", "at(-1, -1)", "tear(6)", "copy(6, 0, 0, 0, -1)", "copy(0, 0, -1, 0, -1)",
            "mean(6)", "text(4, -1)", "put(4, -1, 0)", "fault(4)", "square(4)", "go(-1)", "go(401)", "keep(3)", "on(3)",
            "dearest(6, 1)", "dearest(0, 61)", "worst(0)", "worst(61)", "image(6)", "gone(-1)",
        };
        for (String call : bad) {
            e.refuses(call, Edges.BAD);
        }
        // STATE ahead of a FINDING: there is no ROW either.
        e.refuses("gone(0)", Edges.STATE);
        // UNLIKE or NOTHING fits each of these, too.
        e.from(Edges.RICH);
        for (String call : new String[] {"mark(0, 0)", "mark(0, 6)", "rent(0, 7, 1)", "rent(0, 0, 61)"}) {
            e.refuses(call, Edges.BAD);
        }
        e.from("square: d10");
        e.refuses("agree(0, 10, 0)", Edges.BAD);
        e.finds("agree(0, 9, 0)", Edges.NOUGHT);
        String[] twelveNotes = new String[13];
        java.util.Arrays.fill(twelveNotes, "note(0, 0, 0)");
        twelveNotes[0] = "square: d10 s0:+1:1";
        e.from(twelveNotes);
        e.refuses("note(100, 0, 0)", Edges.BAD);
        e.refuses("note(99, 0, 0)", Edges.FULL);
        e.from("square: d10 s0:+1:1", "row 0: 100000 0 0", "gone(0)");
        e.refuses("go(401)", Edges.BAD);
        e.refuses("go(400)", Edges.SPENT);
        // Where a call says so otherwise: FULL last, STATE behind NOTHING.
        e.from("square: d10 s0:+1:1", "shut(1)", "shut(2)", "shut(3)", "text 0: d9");
        e.refuses("shut(3)", Edges.STATE);
        e.refuses("shut(4)", Edges.FULL);
        e.refuses("mends(3, 1)", Edges.STATE);
        e.refuses("mends(4, 1)", Edges.FULL);
        e.refuses("mends(4, 61)", Edges.BAD);
        e.refuses("worst(61)", Edges.BAD);
        e.refuses("worst(60)", Edges.FULL);
        e.finds("square(1)", Edges.NOTHING);
        e.refuses("square(0)", Edges.STATE);
    }

    private static void none(Edges e) {
        e.says(Edges.TERMS, "NONE -9.");
        e.number("NONE", -9, DoorRounds.NONE);
        e.from("square: d10 s0:+1:1");
        e.refuses("who(1)", Edges.NONE);
        e.looks("who(0)", 0);
    }

    /** Every call that can be refused, as often as there are ways to refuse it, where there is something to lose. */
    private static void refusedChangesNothing(Edges e) {
        e.says(Edges.TERMS, "What is refused changes nothing but finding(), findings().");
        e.from(Edges.RICH);
        String[] bad = {
            "row(6, 1)", "row(1, 41)", "lay(-1, 0, 5)", "at(6, 0)", "tear(-1)", "copy(1, 0, 6, 0, 1)", "mean(-1)",
            "text(4, 1)", "text(3, 101)", "put(4, 0, 5)", "fault(-1)", "square(-1)", "about(7, 0)", "about(0, 6)",
            "mark(7, 1)", "mark(0, 0)", "shut(20)", "open(20)", "go(401)", "doors(6)", "who(20)", "wants(7)",
            "where(7, 1)", "where(0, 401)", "plainly(7, 1)", "plainly(0, 1000000001)", "keep(3)", "on(3)", "beside(0, 0)",
            "comes(0, 20)", "meets(0, 0, 0)", "never(0, 0, 0)", "walk(0, 20)", "round(0, 128)", "best(0, 128, 1)",
            "errands(0, 1, 31, 1)", "errands(0, 128, 1, 1)", "agree(0, 20, 1)", "joins(0, 10)", "note(100, 0, 0)",
            "back(3)", "steps(7)", "kinds(7)", "rent(5, 7, 1)", "dearest(5, 61)", "mends(20, 1)", "mends(0, 61)",
            "worst(61)", "image(6)", "gone(6)", "count(8)", "findings(6)",
        };
        for (String call : bad) {
            e.refuses(call, Edges.BAD);
        }
        for (String call : new String[] {"square(1)", "shut(13)", "open(12)", "mends(2, 1)"}) {
            e.refuses(call, Edges.STATE);
        }
        Object[][] found = {
            {"row(1, -1)", 5}, {"lay(0, 0, 5)", 1}, {"lay(1, 3, 5)", 2}, {"at(0, 0)", 1}, {"at(1, 3)", 2}, {"tear(0)", 1},
            {"copy(1, 0, 5, 0, -1)", 5}, {"copy(1, 0, 0, 0, 1)", 1}, {"copy(5, 0, 1, 0, 4)", 2}, {"mean(0)", 1},
            {"mean(2)", 4}, {"text(1, -1)", 5}, {"put(0, 0, 5)", 1}, {"put(1, 5, 5)", 2}, {"fault(0)", 1},
            {"square(0)", 1}, {"mark(0, 1)", 3}, {"on(0)", 1}, {"rent(0, 0, 1)", 1}, {"rent(1, 0, 1)", 5},
            {"dearest(0, 1)", 1}, {"dearest(1, 1)", 5}, {"gone(0)", 1}, {"gone(1)", 5},
        };
        for (Object[] call : found) {
            e.finds((String) call[0], (Integer) call[1]);
        }
        e.fromRichAnd("lay(5, 19, 100)");
        e.finds("rent(5, 0, 1)", Edges.UNLIKE);
        e.finds("dearest(5, 1)", Edges.UNLIKE);
        e.fromRichAnd("row(4, 20)", "image(3)", "lay(3, 0, -1)");
        e.finds("dearest(4, 1)", Edges.NOUGHT);
        e.finds("gone(3)", Edges.UNLIKE);
        e.fromRichAnd("shut(14)");
        e.refuses("shut(15)", Edges.FULL);
        e.refuses("mends(15, 1)", Edges.FULL);
        e.refuses("worst(1)", Edges.FULL);
        e.fromRichAnd("image(3)", "lay(3, 0, 100000)", "gone(3)");
        e.refuses("go(1)", Edges.SPENT);
        e.from("row 1: 7 -3 12", "text 1: d12s3", "at(1, 2)", "tear(0)");
        for (String call : new String[] {
            "square(1)", "go(0)", "again()", "keep(0)", "quiet()", "busy()", "worst(1)", "image(1)", "gone(1)"}) {
            e.refuses(call, Edges.STATE);
        }
    }

    private static void findings(Edges e) {
        e.says(Edges.TERMS, "FINDINGS: 1 NOTHING (a ROW, a TEXT, a kept WEEK that is missing), 2 BEYOND (a place that "
                + "there is not), 3 UNLIKE (a SHOP of another KIND; a number that is none), 4 NOUGHT (shared among none; "
                + "what can't be), 5 SIZE (fewer than none; not as many as due).");
        e.fromRichAnd("row(4, 20)", "lay(4, 0, -1)", "row(3, 20)");
        e.finds("at(0, 0)", 1);
        e.finds("put(0, 0, 1)", 1);
        e.finds("on(0)", 1);
        e.looks("fault(3)", Edges.NONE);
        e.inTurn("at(1, 0)", 1, "put(1, 0, 1)", 1100, "on(1)", 0);
        e.finds("at(1, 3)", 2);
        e.finds("put(1, 5, 1)", 2);
        e.finds("mark(0, 1)", 3);
        e.finds("rent(4, 0, 1)", 3);
        e.finds("mean(2)", 4);
        e.finds("dearest(3, 1)", 4);
        e.finds("row(1, -1)", 5);
        e.finds("rent(1, 0, 1)", 5);
        e.finds("gone(1)", 5);
    }

    private static void fractions(Edges e) {
        e.says(Edges.TERMS, "Fractions are told by upper() (may be below 0) and lower(), in lowest terms, the lower number "
                + "above 0 (0 by 1).");
        e.from("square: d10 f0:+0:1 f5:+0:1", "row 0: 6 0 0 0 0 4 0 0 0 0", "row 1: 0 0 0 0 0 99 0 0 0 0",
                "row 2: 99 0 0 0 0 98 0 0 0 0", "row(3, 10)");
        e.inTurn("upper()", 0, "lower()", 1, "dearest(0, 1)", 0, "upper()", 3, "lower()", 5);
        e.inTurn("dearest(0, 60)", 0, "upper()", 3, "lower()", 5);
        e.inTurn("dearest(1, 60)", 1, "upper()", 1, "lower()", 1);
        e.inTurn("dearest(2, 60)", 0, "upper()", 99, "lower()", 197);
        e.inTurn("dearest(3, 60)", Edges.FINDING, "upper()", 0, "lower()", 1);
        e.inTurn("dearest(0, 1)", 0, "dearest(3, 60)", Edges.FINDING, "upper()", 3, "lower()", 5);
    }

    private static void sets(Edges e) {
        e.says(Edges.TERMS, "Sets are told by bits.");
        e.from("square: d20 f0:+0:1 f2:+0:1 f17:+0:1", "shut(0)", "shut(19)");
        e.looks("round(0, 0)", 0);
        e.looks("round(0, 1)", 0);
        e.looks("round(0, 2)", 4);
        e.looks("round(0, 4)", 6);
        e.looks("round(0, 7)", 10);
        e.refuses("round(0, 8)", Edges.BAD);
        e.refuses("round(0, -1)", Edges.BAD);
        e.refuses("round(0, min)", Edges.BAD);
        e.inTurn("image(0)", 5, "at(0, 1)", 1, "asked()", 1 + (1 << 19));
        e.from("square: d10 f0:+0:1 f1:+0:1 f2:+0:1 f3:+0:1 f4:+0:1 f5:+0:1 f6:+0:1");
        e.looks("round(0, 64)", 8);
        e.looks("round(0, 127)", 10);
        e.refuses("round(0, 128)", Edges.BAD);
    }
}
