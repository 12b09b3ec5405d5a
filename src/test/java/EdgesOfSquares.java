/** "Terms", 1: ROWS, TEXTS, how a SQUARE is written, KINDS, a SHOP's GOING. */
final class EdgesOfSquares {
    private static final int NONE = Edges.NONE;
    private static final String SEVEN = "d10s0:+0:1s1:+0:1s2:+0:1s3:+0:1s4:+0:1s5:+0:1s6:+0:1";

    private EdgesOfSquares() {
    }

    static void all(Edges e) {
        rowsAndTexts(e);
        blanks(e);
        firstItem(e);
        shops(e);
        faults(e);
        kinds(e);
        firstWeek(e);
        goings(e);
    }

    private static void rowsAndTexts(Edges e) {
        e.says(Edges.TERMS, "ROWS 0 .. 5 are rows of 0 to 40 ints, TEXTS 0 .. 3 rows of 0 to 100 bytes, or missing (at "
                + "first).");
        e.from();
        for (int r = 0; r <= 5; r++) {
            e.finds("at(" + r + ", 0)", Edges.NOTHING);
        }
        for (int t = 0; t <= 3; t++) {
            e.finds("put(" + t + ", 0, 0)", Edges.NOTHING);
        }
        e.inTurn("row(0, 0)", 0, "row(5, 40)", 40, "row(5, 41)", Edges.BAD, "count(6)", 2);
        e.inTurn("text(0, 0)", 0, "text(3, 100)", 100, "text(3, 101)", Edges.BAD, "count(7)", 2);
        e.refuses("row(-1, 0)", Edges.BAD);
        e.refuses("row(6, 0)", Edges.BAD);
        e.refuses("text(-1, 0)", Edges.BAD);
        e.refuses("text(4, 0)", Edges.BAD);
        e.from("row(5, 40)", "text(3, 100)");
        e.inTurn("lay(5, 39, max)", 1, "lay(5, 39, min)", 1, "asked()", Integer.MAX_VALUE, "at(5, 39)", 1,
                "asked()", Integer.MIN_VALUE, "at(5, 40)", Edges.FINDING);
        e.inTurn("put(3, 99, 127)", 1032, "put(3, 99, -128)", 1127, "put(3, 99, 0)", 872, "put(3, 100, 0)", Edges.FINDING);
    }

    /** A TEXT that is no SQUARE leaves the SQUARE that there is. */
    private static void fault(Edges e, int due, String text) {
        e.fromRichAnd("text 0: " + text);
        e.looks("fault(0)", due);
        if (due == NONE) {
            e.inTurn("square(0)", text.chars().filter(c -> "sfynop".indexOf(c) >= 0).count(), "count(2)", 0);
        } else {
            e.refuses("square(0)", Edges.STATE);
        }
    }

    private static void blanks(Edges e) {
        e.says(Edges.TERMS, "A SQUARE is a TEXT: blanks (32) ahead, between, behind as many as wanted, none within items.");
        fault(e, NONE, "d10");
        fault(e, NONE, " d10 ");
        fault(e, NONE, " ".repeat(97) + "d10");
        fault(e, NONE, "d10" + " ".repeat(97));
        fault(e, NONE, "d10s0:+0:1s1:+0:1");
        fault(e, NONE, "d10" + " ".repeat(90) + "s0:+0:1");
        fault(e, NONE, "  d10  s0:+0:1  n1:+0:1:2  s2:+0:1  ");
        fault(e, 1, "d 10");
        fault(e, 2, "d1 0");
        fault(e, 5, "d10 s 0:+0:1");
        fault(e, 6, "d10 s0 :+0:1");
        fault(e, 7, "d10 s0: +0:1");
        fault(e, 8, "d10 s0:+ 0:1");
        fault(e, 9, "d10 s0:+0 :1");
        fault(e, 10, "d10 s0:+0: 1");
        fault(e, 11, "d10 n0:+0:1 :2");
        fault(e, 12, "d10 n0:+0:1: 2");
        // One sign less and one more than a blank.
        fault(e, 3, "d10" + (char) 31);
        fault(e, 0, "!d10");
    }

    private static void firstItem(Edges e) {
        e.says(Edges.TERMS, "The first item is d (100) n: DOORS 0 .. n less 1 round about (10 .. 30, two figures);");
        fault(e, 3, "d09");
        fault(e, NONE, "d10");
        fault(e, NONE, "d30");
        fault(e, 3, "d31");
        fault(e, 3, "d00");
        fault(e, 3, "d99");
        fault(e, 2, "d9");
        fault(e, 3, "d100");
        fault(e, 0, "c10");
        fault(e, 0, "e10");
        fault(e, 0, "D10");
        fault(e, 1, "d/0");
        fault(e, 1, "d:0");
        fault(e, 2, "d1/");
        fault(e, 2, "d1:");
        fault(e, 4, "d10 d10");
        e.from("square: d10 s9:+1:1");
        e.inTurn("count(0)", 10, "who(0)", NONE, "who(9)", 0, "who(10)", Edges.BAD, "who(-1)", Edges.BAD, "where(0, 1)", 0);
        e.from("square: d30 s29:+1:1");
        e.inTurn("count(0)", 30, "who(0)", NONE, "who(29)", 0, "who(30)", Edges.BAD, "where(0, 1)", 0);
    }

    private static void shops(Edges e) {
        e.says(Edges.TERMS, "then SHOPS 0, 1, .. (7 at most): a letter, its DOOR (one or two figures, unlike those told "
                + "ahead), : (58), its STEP: + (43) or - (45) and one figure 0 .. 9, :, its AGE (1 .. 99, one or two "
                + "figures), and, of n, o, p alone, : and a number k (2 .. 9, one figure).");
        fault(e, NONE, SEVEN);
        fault(e, 52, SEVEN + "s7:+0:1");
        for (String letter : "a d e g m q r t x z S".split(" ")) {
            fault(e, 3, "d10" + letter + "0:+0:1");
        }
        doors(e);
        signs(e);
        agesAndKs(e);
    }

    private static void doors(Edges e) {
        fault(e, NONE, "d10s0:+0:1");
        fault(e, NONE, "d10s00:+0:1");
        fault(e, NONE, "d10s9:+0:1");
        fault(e, NONE, "d10s09:+0:1");
        fault(e, 6, "d10s10:+0:1");
        fault(e, NONE, "d30s29:+0:1");
        fault(e, 6, "d30s30:+0:1");
        fault(e, 6, "d30s029:+0:1");
        fault(e, 4, "d10s/:+0:1");
        fault(e, 4, "d10s::+0:1");
        fault(e, 4, "d10s-1:+0:1");
        fault(e, NONE, "d10s1:+0:1s2:+0:1");
        fault(e, 12, "d10s1:+0:1s1:+0:1");
        fault(e, 13, "d10s1:+0:1s01:+0:1");
        fault(e, 58, "d10s1:+0:1 s2:+0:1 s3:+0:1 s4:+0:1 s5:+0:1 s6:+0:1      s1:+0:1");
    }

    private static void signs(Edges e) {
        fault(e, 5, "d10s1;+0:1");
        fault(e, 5, "d10s1/+0:1");
        for (String sign : "* , . 0 :".split(" ")) {
            fault(e, 6, "d10s1:" + sign + "0:1");
        }
        fault(e, NONE, "d10s1:+0:1");
        fault(e, NONE, "d10s1:-0:1");
        fault(e, NONE, "d10s1:+9:1");
        fault(e, NONE, "d10s1:-9:1");
        fault(e, 7, "d10s1:+/:1");
        fault(e, 7, "d10s1:+::1");
        fault(e, 7, "d10s1:+-1:1");
        fault(e, 8, "d10s1:+10:1");
        fault(e, 8, "d10s1:-01:1");
        fault(e, 8, "d10s1:+0;1");
        e.from("square: d10 s0:+0:1 s1:-0:1 s2:+9:1 s3:-9:1");
        e.tells("about(0, 2)", 1, 0);
        e.tells("about(1, 2)", 1, 0);
        e.tells("about(2, 2)", 1, 9);
        e.tells("about(3, 2)", 1, -9);
    }

    private static void agesAndKs(Edges e) {
        fault(e, 10, "d10s1:+0:0");
        fault(e, 11, "d10s1:+0:00");
        fault(e, NONE, "d10s1:+0:1");
        fault(e, NONE, "d10s1:+0:01");
        fault(e, NONE, "d10s1:+0:99");
        fault(e, 11, "d10s1:+0:100");
        fault(e, 9, "d10s1:+0:/");
        fault(e, 9, "d10s1:+0::");
        for (char letter : "nop".toCharArray()) {
            fault(e, 12, "d10" + letter + "1:+0:1:1");
            fault(e, 12, "d10" + letter + "1:+0:1:0");
            fault(e, NONE, "d10" + letter + "1:+0:1:2");
            fault(e, NONE, "d10" + letter + "1:+0:1:9");
            fault(e, 12, "d10" + letter + "1:+0:1:10");
            fault(e, 12, "d10" + letter + "1:+0:1:22");
            fault(e, 11, "d10" + letter + "1:+0:1::");
            fault(e, 10, "d10" + letter + "1:+0:1");
            fault(e, 10, "d10" + letter + "1:+0:1;2");
        }
        for (char letter : "sfy".toCharArray()) {
            fault(e, NONE, "d10" + letter + "1:+0:1");
            fault(e, 10, "d10" + letter + "1:+0:1:2");
        }
    }

    private static void faults(Edges e) {
        e.says(Edges.TERMS, "A FAULT is the first place at which it can't go on so (a number out of these, a DOOR told "
                + "ahead: the place behind; a letter, a sign, a figure that is none such: its place; an eighth SHOP: its "
                + "letter; the TEXT's size, if its end comes too early, or there is no d).");
        // Of two, the first.
        fault(e, 3, "d31 x");
        fault(e, 6, "d10s10:*0:1");
        fault(e, 12, "d10s1:+1:1s1;");
        fault(e, 54, SEVEN + "  s7:+0:1");
        fault(e, 52, SEVEN + "x");
        fault(e, 52, SEVEN + "s");
        fault(e, NONE, SEVEN + "  ");
        fault(e, 0, "s1:+1:1");
        for (int size = 0; size <= 100; size += 50) {
            fault(e, size, " ".repeat(size));
        }
        String whole = "d12n11:+9:99:9";
        for (int size = 0; size <= whole.length(); size++) {
            fault(e, size == 3 || size == whole.length() ? NONE : size, whole.substring(0, size));
        }
        e.from("text 0: d10", "put(0, 0, 228)");
        e.answers("fault(0)", 0);
        e.from("text 0: d10", "put(0, 0, 356)");
        e.answers("fault(0)", NONE);
    }

    private static void kinds(Edges e) {
        e.says(Edges.TERMS, "KINDS and letters: 0 SHOP (s, 115), 1 FIXED (f, 102; a SHOP), 2 SHY (y, 121; a SHOP), 3 "
                + "SLEEPER (n, 110; a SHOP), 4 TURNER (o, 111; a SHOP), 5 DREAMER (p, 112; a SLEEPER).");
        e.from("square: d20 s0:+1:1 f3:+1:1 y6:+1:1 n9:+1:1:2 o12:+1:1:2 p15:+1:1:2");
        for (int s = 0; s <= 5; s++) {
            e.tells("about(" + s + ", 0)", 1, s);
            for (int kind = 1; kind <= 5; kind++) {
                if (kind != s && !(kind == 3 && s == 5)) {
                    e.finds("mark(" + s + ", " + kind + ")", Edges.UNLIKE);
                }
            }
        }
        e.looks("mark(1, 1)", 0);
        e.looks("mark(2, 2)", 0);
        e.looks("mark(3, 3)", 1);
        e.looks("mark(4, 4)", 2);
        e.looks("mark(5, 3)", 1);
        e.looks("mark(5, 5)", 1000);
        e.looks("count(3)", 2);
    }

    private static void firstWeek(Edges e) {
        e.says(Edges.TERMS, "WEEK 0 is now at first.");
        e.from();
        e.looks("count(2)", 0);
        e.from("square: d10 n0:+1:1:2");
        e.looks("count(2)", 0);
        // Its GOING is that of WEEK 0, then that of WEEK 1.
        e.looks("where(0, 1)", 1);
        e.looks("where(0, 2)", 1);
    }

    private static void doorsByWeeks(Edges e, String shop, int... due) {
        e.from("square: d10 " + shop);
        for (int w = 0; w < due.length; w++) {
            e.looks("where(0, " + w + ")", due[w]);
            e.looks("plainly(0, " + w + ")", due[w]);
        }
    }

    private static void goings(Edges e) {
        e.says(Edges.TERMS, "A SHOP's GOING in a WEEK w (from it to the next one) is its STEP;");
        doorsByWeeks(e, "s0:+1:1", 0, 1, 2);
        doorsByWeeks(e, "s0:+9:1", 0, 9, 8);
        doorsByWeeks(e, "s0:-9:1", 0, 1, 2);
        doorsByWeeks(e, "s0:-0:1", 0, 0, 0);
        doorsByWeeks(e, "y0:-1:1", 0, 9, 8);
        e.says(Edges.TERMS, "FIXED: 0;");
        doorsByWeeks(e, "f3:+9:1", 3, 3, 3);
        e.says(Edges.TERMS, "SLEEPER: 0, if w modulo k is k less 1;");
        doorsByWeeks(e, "n0:+1:1:2", 0, 1, 1, 2, 2, 3, 3);
        doorsByWeeks(e, "n0:-1:1:3", 0, 9, 8, 8, 7, 6, 6);
        doorsByWeeks(e, "n0:+1:1:9", 0, 1, 2, 3, 4, 5, 6, 7, 8, 8, 9, 0);
        e.says(Edges.TERMS, "TURNER: its STEP, if w by k (cut) is even, else 0 less its STEP;");
        doorsByWeeks(e, "o0:+1:1:2", 0, 1, 2, 1, 0, 1, 2, 1, 0);
        doorsByWeeks(e, "o0:-2:1:3", 0, 8, 6, 4, 6, 8, 0, 8);
        doorsByWeeks(e, "o0:+1:1:9", 0, 1, 2, 3, 4, 5, 6, 7, 8, 9, 8, 7, 6, 5, 4, 3, 2, 1, 0, 1);
        e.says(Edges.TERMS, "DREAMER: as a SLEEPER, but 0 less its STEP where that goes 0.");
        doorsByWeeks(e, "p0:+1:1:2", 0, 1, 0, 1, 0);
        doorsByWeeks(e, "p0:-1:1:3", 0, 9, 8, 9, 8, 7, 8);
        doorsByWeeks(e, "p0:+1:1:9", 0, 1, 2, 3, 4, 5, 6, 7, 8, 7, 8);
    }
}
