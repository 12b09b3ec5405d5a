/** Promises 29 to 33: walk, round, best, errands, agree. */
public final class ErrandsTest {
    private static final Check check = new Check("ErrandsTest");
    private static final int BAD = DoorRounds.BAD;

    public static void main(String[] args) {
        walk();
        round();
        best();
        errands();
        agree();
        wrongOnes();
        check.end();
    }

    private static void walk() {
        DoorRounds x = Check.with("d11");
        check.due("walk(0, 5)", 5, x.walk(0, 5));
        check.due("walk(0, 6)", 5, x.walk(0, 6));
        check.due("walk(10, 0)", 1, x.walk(10, 0));
        check.due("walk(0, 10)", 1, x.walk(0, 10));
        check.due("walk(3, 3)", 0, x.walk(3, 3));
        check.due("walk(0, 11)", BAD, x.walk(0, 11));
        check.due("walk(11, 0)", BAD, x.walk(11, 0));
        check.due("walk(-1, 0)", BAD, x.walk(-1, 0));
        check.due("walk(0, -1)", BAD, x.walk(0, -1));
        check.due("half of an even one", 5, Check.with("d10").walk(7, 2));
    }

    private static void round() {
        DoorRounds x = Check.with("d20 s0:+1:1 s2:+1:1 s5:+1:1 s17:+1:1 s10:+1:1 s14:+1:1 s6:+1:1");
        check.due("none", 0, x.round(0, 0));
        check.due("at home", 0, x.round(0, 1));
        check.due("upwards", 10, x.round(0, 0b0111));
        check.due("downwards", 6, x.round(0, 0b1001));
        check.due("one up", 2, x.round(1, 0b10));
        check.due("one down", 2, x.round(18, 0b1000));
        check.due("both: 5 up, 3 down", 16, x.round(0, 0b1111));
        check.due("the far side", 20, x.round(0, 0b10000));
        check.due("all about", 20, x.round(0, 0b1111111));
        check.due("6 up, 3 down", 18, x.round(0, 0b1001000));
        check.due("6 up, 6 down: about", 20, x.round(0, 0b1100000));
        check.due("from another door: 9 up", 18, x.round(8, 0b1000));
        check.due("from another door: 3 down, 2 up", 10, x.round(8, 0b10100));
        check.due("twice both is as much as about", 20, x.round(7, 0b1000000 | 0b1 | 0b10000));
    }

    private static void best() {
        DoorRounds x = Check.with("d12 s0:+1:1 f6:+0:9 s3:-1:1");
        // Shop 0: 0, 1, 2, 3, ..; it is 6 away from 6 at first.
        check.asked("now", x, 0, 0, x.best(0, 1, 60));
        check.asked("when it comes", x, 4, 0, x.best(4, 1, 60));
        check.asked("as near as it comes in 3 weeks", x, 3, 2, x.best(4, 1, 3));
        check.asked("the first of alike ones", x, 0, 12, x.best(0, 2, 60));
        check.asked("none", x, 0, 0, x.best(3, 0, 60));
        check.asked("no week more", x, 0, 12, x.best(6, 1, 0));
        check.due("it stays now", 0, x.count(2));
        // From 1: shop 0 at 0, 1, 3 (2 is taken), 4; shop 2 at 3, 2, 1, 0.
        check.due("both", 4 + 2, x.round(1, 5));
    }

    private static void errands() {
        DoorRounds x = Check.with("d20 s0:+1:1 s10:-1:1 f5:+0:9");
        // From 3: shop 0 is there in week 3; shop 1 in week 7, less what it had to leave out.
        check.due("one, when it comes", 0, x.errands(3, 1, 30, 2));
        check.rowIs("its week", x, 2, 3);
        check.due("none", 0, x.errands(3, 0, 30, 2));
        check.rowIs("none", x, 2);
        check.due("the fixed one, any week: the first", 4, x.errands(3, 4, 30, 2));
        check.rowIs("its week", x, 2, 0);
        check.due("only now: one round", 20, x.errands(3, 7, 0, 2));
        check.rowIs("all now", x, 2, 0, 0, 0);
        // Shop 0 in week 3 (0), the fixed one in week 0 (4) and not sooner than wanted.
        check.due("apart", 4, x.errands(3, 5, 30, 2));
        check.rowIs("apart: weeks", x, 2, 3, 0);
        x = Check.with("d20 s8:-1:1 f4:+0:9");
        // From 0: shop 0 goes 8, 7, 6, 5, 3, 2, 1, 0; the fixed one costs 8 whenever; with it all up to 4 is free.
        check.due("in one round", 8, x.errands(0, 3, 4, 1));
        check.rowIs("the first week in which it is no farther", x, 1, 4, 4);
        check.due("later it comes by itself", 8, x.errands(0, 3, 7, 1));
        check.rowIs("the first of alike ones by the least shop", x, 1, 4, 4);
        check.due("too early", 10, x.errands(0, 3, 3, 1));
        check.rowIs("both in week 3", x, 1, 3, 3);
        check.due("asked() is not told", 3, x.asked());
        x.go(2);
        check.due("from now on", 8, x.errands(0, 3, 2, 1));
        check.rowIs("weeks from now on", x, 1, 2, 2);
        DoorRounds seven = Check.with("d30s1:+1:1s2:+1:1s3:+1:1s4:+1:1s5:+1:1s6:+1:1s7:+1:1");
        check.due("seven, each at its own time", 0, seven.errands(0, 127, 30, 4));
        check.rowIs("seven weeks", seven, 4, 29, 28, 27, 26, 25, 24, 23);
        check.due("four of them", 0, seven.errands(0, 0b1010101, 30, 4));
        check.rowIs("four weeks", seven, 4, 29, 27, 25, 23);
        // In week 28 shop 1 is at home; shop 0 is next door now and in week 28.
        check.due("the first is next door now", 2, seven.errands(0, 0b11, 28, 4));
        check.rowIs("now and in week 28", seven, 4, 0, 28);
        x.row(0, 40);
        check.due("a row anew", 0, x.errands(4, 2, 30, 0));
        check.rowIs("one place", x, 0, 0);
    }

    private static void agree() {
        DoorRounds x = Check.with("d20 s0:+1:1 s15:-1:1 f9:+0:9");
        check.asked("halfway now", x, 2, 4, x.agree(7, 11, 0));
        check.asked("no nearer ever", x, 2, 4, x.agree(7, 11, 60));
        check.asked("one at its door", x, 1, 0, x.agree(15, 15, 60));
        check.asked("the first week", x, 21, 0, x.agree(13, 13, 60));
        check.asked("shop 0 in week 3", x, 30, 0, x.agree(3, 3, 60));
        check.asked("over the seam", x, 0, 2, x.agree(19, 1, 60));
        check.asked("the least shop of alike ones", x, 0, 10, x.agree(0, 10, 0));
        check.asked("week 0 alone", x, 0, 6, x.agree(3, 3, 0));
        DoorRounds one = Check.with("d10 s3:+0:1");
        check.asked("none is at door 0", one, 0, 6, one.agree(0, 0, 0));
        DoorRounds none = Check.with("d20");
        check.finding("agree with no shops", none, 4, none.agree(0, 0, 0));
        check.due("BAD ahead of NOUGHT", BAD, none.agree(0, 20, 0));
    }

    private static void wrongOnes() {
        DoorRounds x = Check.with("d20 s0:+1:1 s10:-1:1");
        int[][] homes = {{20, 0}, {-1, 0}, {0, 4}, {0, -1}, {0, Integer.MIN_VALUE}, {0, Integer.MAX_VALUE}};
        for (int[] wrong : homes) {
            String what = "(" + wrong[0] + ", " + wrong[1] + ")";
            check.due("round" + what, BAD, x.round(wrong[0], wrong[1]));
            check.due("best" + what, BAD, x.best(wrong[0], wrong[1], 0));
            check.due("errands" + what, BAD, x.errands(wrong[0], wrong[1], 0, 0));
        }
        check.due("best: 60 weeks", 0, x.best(0, 1, 60));
        check.due("best: 61 weeks", BAD, x.best(0, 1, 61));
        check.due("best: -1 weeks", BAD, x.best(0, 1, -1));
        check.due("errands: 31 weeks", BAD, x.errands(0, 1, 31, 0));
        check.due("errands: -1 weeks", BAD, x.errands(0, 1, -1, 0));
        check.due("errands: row 6", BAD, x.errands(0, 1, 0, 6));
        check.due("errands: row -1", BAD, x.errands(0, 1, 0, -1));
        check.due("no row was made", 0, x.count(6));
        check.due("agree(20, 0, 0)", BAD, x.agree(20, 0, 0));
        check.due("agree(0, -1, 0)", BAD, x.agree(0, -1, 0));
        check.due("agree: 61 weeks", BAD, x.agree(0, 0, 61));
        check.due("agree: -1 weeks", BAD, x.agree(0, 0, -1));
    }
}
