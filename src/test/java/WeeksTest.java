/** Promises 16 to 24: go, doors, who, wants, where, plainly, again, keep, on. */
public final class WeeksTest {
    private static final Check check = new Check("WeeksTest");
    private static final int BAD = DoorRounds.BAD, STATE = DoorRounds.STATE, SPENT = DoorRounds.SPENT;
    private static final int NONE = DoorRounds.NONE;

    public static void main(String[] args) {
        goings();
        whoTakesADoor();
        squareBehindSquare();
        shutDoors();
        go();
        doorsAndWho();
        wants();
        where();
        plainly();
        again();
        keepAndOn();
        check.end();
    }

    /** The DOORS of one SHOP, week by week from week 0. */
    private static void course(String shop, int... due) {
        DoorRounds x = Check.with("d10" + shop);
        for (int w = 0; w < due.length; w++) {
            check.due(shop + ": door in week " + w, 0, x.who(due[w]));
            check.due(shop + ": plainly in week " + w, due[w], Check.with("d10" + shop).plainly(0, w));
            check.due(shop + ": go to week " + (w + 1), w + 1, x.go(1));
        }
    }

    private static void goings() {
        course("s8:+3:1", 8, 1, 4, 7, 0, 3);
        course("s1:-3:1", 1, 8, 5, 2, 9);
        course("s1:+0:1", 1, 1, 1);
        course("f4:+7:1", 4, 4, 4, 4);
        course("y4:-2:1", 4, 2, 0, 8);
        course("n0:+2:1:3", 0, 2, 4, 4, 6, 8, 8, 0);
        course("n0:-1:1:2", 0, 9, 9, 8, 8);
        course("o5:+2:1:2", 5, 7, 9, 7, 5, 7, 9, 7);
        course("o5:-4:1:3", 5, 1, 7, 3, 7, 1, 5, 1);
        course("p0:+3:1:3", 0, 3, 6, 3, 6, 9, 6);
        course("p0:-3:1:2", 0, 7, 0, 7, 0);
    }

    private static void nextDoors(String square, int... due) {
        DoorRounds x = Check.with(square);
        x.go(1);
        x.doors(0);
        check.rowIs("next doors of " + square, x, 0, due);
    }

    private static void whoTakesADoor() {
        // Both want 5; the greater age gets it, the other goes on in the way of its going.
        nextDoors("d10 s4:+1:9 s6:-1:8", 5, 4);
        nextDoors("d10 s4:+1:8 s6:-1:9", 6, 5);
        nextDoors("d10 s4:+1:8 s6:-1:8", 5, 4);
        // A shy one comes behind all others, however old; two shy ones by age.
        nextDoors("d10 y4:+1:99 s6:-1:1", 6, 5);
        nextDoors("d10 y4:+1:1 y6:-1:2", 6, 5);
        // A going of 0 goes on upwards: fixed, asleep, a step of -0.
        nextDoors("d10 s4:+1:9 f5:-3:1", 5, 6);
        nextDoors("d10 s4:+1:9 s5:-0:1", 5, 6);
        // The going of that week tells the way, not the step.
        DoorRounds x = Check.with("d20 o0:+2:1:2 s5:-1:9");
        x.go(2);
        x.doors(0);
        check.rowIs("two weeks on", x, 0, 4, 3);
        x.go(1);
        x.doors(0);
        check.rowIs("the turner goes on downwards now", x, 0, 1, 2);
        x = Check.with("d10 p5:+1:1:2 s6:-1:9");
        x.go(1);
        x.doors(0);
        // Week 0: the old one gets 5, the dreamer 6. Week 1: the old one 4, the dreamer goes down to 5.
        check.rowIs("week 1", x, 0, 6, 5);
        x.go(1);
        x.doors(0);
        check.rowIs("week 2", x, 0, 5, 4);
        // On, door by door, over the seam and over several taken ones.
        nextDoors("d10 s7:+1:9 s8:+1:8 s9:+1:7 s6:+2:1", 8, 9, 0, 1);
        nextDoors("d10 s2:-1:9 s1:-1:8 s0:-1:7 s3:-2:1", 1, 0, 9, 8);
        // All want 0: by ages, of alike ones the least number, then the shy ones.
        nextDoors("d20 s1:-1:5 y2:-2:99 s3:-3:7 s19:+1:5 y18:+2:98 s17:+3:6 s4:-4:7", 18, 17, 0, 2, 3, 1, 19);
        // What is left this week is free: they go one behind the other round about.
        nextDoors("d10 s0:+1:1 s1:+1:2 s2:+1:3", 1, 2, 3);
    }

    /** Squares one behind the other in one object: nothing of an earlier one is left. */
    private static void squareBehindSquare() {
        DoorRounds x = new DoorRounds();
        Check.write(x, 0, "d10 s4:+1:8 s6:-1:9 f0:+0:1 f9:+0:2");
        Check.write(x, 1, "d10 y4:+1:9 s6:-1:8 f0:+0:7 f9:+0:6");
        Check.write(x, 2, "d10 s4:+1:9 s6:-1:8");
        int[][] due = {{6, 5, 0, 9}, {6, 5, 0, 9}, {5, 4}};
        for (int i = 0; i < 9; i++) {
            x.square(i % 3);
            x.go(1);
            x.doors(0);
            check.rowIs("square " + i, x, 0, due[i % 3]);
        }
    }

    private static void shutDoors() {
        DoorRounds x = Check.with("d10 s0:+1:1 f5:+0:2 s3:-2:3");
        x.shut(1);
        x.shut(5);
        x.shut(0);
        check.due("the fixed one keeps it now", 1, x.who(5));
        x.go(1);
        x.doors(0);
        // Shop 2 wants 1 (shut), then 0 (shut), so 9; the fixed one 5 (shut), so 6; shop 0 wants 1, so 2.
        check.rowIs("with shut doors", x, 0, 2, 6, 9);
        x.open(5);
        x.go(1);
        check.due("the fixed one stays where it came to", 1, x.who(6));
    }

    private static void go() {
        DoorRounds x = new DoorRounds();
        check.due("go in no square", STATE, x.go(1));
        check.due("go(401): BAD ahead of STATE", BAD, x.go(401));
        x = Check.with("d10 s0:+1:1");
        check.due("go(0)", 0, x.go(0));
        check.due("go(-1)", BAD, x.go(-1));
        check.due("go(401)", BAD, x.go(401));
        for (int w = 400; w <= 100000 - 400; w += 400) {
            x.go(400);
        }
        check.due("go(399)", 99999, x.go(399));
        check.due("week 100001", SPENT, x.go(2));
        check.due("week 100000", 100000, x.go(1));
        check.due("one more", SPENT, x.go(1));
        check.due("none more", 100000, x.go(0));
        check.due("where looks farther", 3, x.where(0, 3));
        check.due("BAD ahead of SPENT", BAD, x.go(401));
    }

    private static void doorsAndWho() {
        DoorRounds x = Check.with("d10 s7:+1:1 s2:+1:1");
        check.due("doors(5)", 2, x.doors(5));
        check.rowIs("doors", x, 5, 7, 2);
        check.due("doors(6)", BAD, x.doors(6));
        check.due("doors(-1)", BAD, x.doors(-1));
        check.due("who(7)", 0, x.who(7));
        check.due("who(2)", 1, x.who(2));
        check.due("who(0)", NONE, x.who(0));
        check.due("who(10)", BAD, x.who(10));
        check.due("who(-1)", BAD, x.who(-1));
        x = new DoorRounds();
        x.row(0, 5);
        check.due("doors of no shops", 0, x.doors(0));
        check.finding("an empty row", x, 2, x.at(0, 0));
        check.due("who in no square", BAD, x.who(0));
    }

    private static void wants() {
        DoorRounds x = Check.with("d10 s4:+1:9 s6:-1:8 s9:+1:1");
        check.asked("wants(0)", x, 5, 5, x.wants(0));
        check.asked("wants(1)", x, 5, 4, x.wants(1));
        check.asked("wants(2)", x, 0, 0, x.wants(2));
        check.due("it is week 0 still", 0, x.count(2));
        check.due("wants(3)", BAD, x.wants(3));
        check.due("wants(-1)", BAD, x.wants(-1));
        x.shut(0);
        check.asked("wants a shut one", x, 0, 1, x.wants(2));
    }

    private static void where() {
        DoorRounds x = Check.with("d10 s4:+1:9 s6:-1:8");
        check.due("where(1, 0)", 6, x.where(1, 0));
        check.due("where(1, 1)", 4, x.where(1, 1));
        check.due("where(0, 400)", 4, x.where(0, 400));
        check.due("it stays now", 6, x.where(1, 0));
        check.due("where(0, 401)", BAD, x.where(0, 401));
        check.due("where(0, -1)", BAD, x.where(0, -1));
        check.due("where(2, 0)", BAD, x.where(2, 0));
        check.due("where(-1, 0)", BAD, x.where(-1, 0));
    }

    private static void plainly() {
        DoorRounds x = Check.with("d10 s4:+1:9 s6:-1:8 n0:+9:1:9 o1:-7:1:9 p2:+9:1:9");
        check.due("plainly(1, 1): others apart", 5, x.plainly(1, 1));
        check.due("plainly(0, 1000000000)", 4, x.plainly(0, 1000000000));
        check.due("plainly(0, 999999999)", 3, x.plainly(0, 999999999));
        // 1000000000 = 111111111 * 9 + 1: 111111111 * 8 + 1 goings of 9.
        check.due("a sleeper far on", (int) ((111111111L * 8 + 1) * 9 % 10), x.plainly(2, 1000000000));
        // 1000000000 = 55555555 * 18 + 10: 9 there, 1 back.
        check.due("a turner far on", Math.floorMod(1 - 7 * 8, 10), x.plainly(3, 1000000000));
        check.due("a dreamer far on", (int) ((2 + (111111111L * 7 + 1) * 9) % 10), x.plainly(4, 1000000000));
        check.due("plainly(0, 1000000001)", BAD, x.plainly(0, 1000000001));
        check.due("plainly(0, -1)", BAD, x.plainly(0, -1));
        check.due("plainly(5, 0)", BAD, x.plainly(5, 0));
        check.due("plainly(-1, 0)", BAD, x.plainly(-1, 0));
        x = Check.with("d10 n0:+1:1:3");
        x.go(2);
        check.due("from this week on: asleep", 2, x.plainly(0, 1));
        check.due("from this week on: awake", 3, x.plainly(0, 2));
        x = Check.with("d10 s0:+1:1 s1:-0:9");
        x.shut(2);
        x.go(1);
        check.due("from the door that it has now", 4, x.plainly(0, 1));
    }

    private static void again() {
        check.due("again in no square", STATE, new DoorRounds().again());
        check.due("again of a step of 1", 10, Check.with("d10 s0:+1:1").again());
        check.due("again of a step of 4", 5, Check.with("d10 s0:+4:1").again());
        check.due("again of a fixed one", 1, Check.with("d10 f0:+4:1").again());
        check.due("again of none", 1, Check.with("d10").again());
        check.due("again of two", 6, Check.with("d12 s0:+6:1 s1:+4:1").again());
        // Of 32 weeks it sleeps 3.
        check.due("a sleeper", 32, Check.with("d29 n0:+1:1:9").again());
        // A fixed one that is pushed on by one behind it comes round with it.
        check.due("a fixed one comes again", 10, Check.with("d10 f5:+0:1 s4:+1:9").again());
        DoorRounds x = Check.with("d10 f5:+0:1 s0:+1:1");
        x.go(3);
        // The other one leaves out the fixed one's door each time.
        check.due("from now on", 9, x.again());
        // Each time round the old one pushes the fixed one up by one: 24 weeks each, 25 times.
        check.due("the last week looked at", 600, Check.with("d25 f5:+0:1 s10:-1:9").again());
        check.due("far behind the last week", NONE, Check.with("d26 f5:+0:1 s10:-1:9").again());
        x = Check.with("d11 p4:+6:8:8 s7:-9:8");
        check.due("behind the last week", NONE, x.again());
        x.go(400);
        x.go(201);
        x.doors(0);
        check.rowIs("in week 601", x, 0, 4, 7);
        x = Check.with("d10 f5:+0:1");
        x.shut(5);
        check.due("never again", NONE, x.again());
        x.go(1);
        check.due("but from then on", 1, x.again());
    }

    private static void keepAndOn() {
        DoorRounds x = new DoorRounds();
        check.due("keep in no square", STATE, x.keep(0));
        check.due("keep(3): BAD ahead of STATE", BAD, x.keep(3));
        x = Check.with("d10 s0:+1:1 n5:+1:1:4");
        check.due("keep(-1)", BAD, x.keep(-1));
        check.due("keep(3)", BAD, x.keep(3));
        x.shut(9);
        x.go(2);
        check.due("keep(2)", 2, x.keep(2));
        x.note(0, 0, 0);
        x.go(30);
        x.open(9);
        x.shut(1);
        check.due("on(-1)", BAD, x.on(-1));
        check.due("on(3)", BAD, x.on(3));
        check.finding("on(0)", x, 1, x.on(0));
        check.due("on(2)", 2, x.on(2));
        check.due("the week", 2, x.count(2));
        check.due("doors", 0, x.who(2));
        check.due("doors, too", 1, x.who(7));
        check.due("shut again", STATE, x.shut(9));
        check.due("open again", STATE, x.open(1));
        check.due("notes stay", 1, x.count(5));
        x.go(5);
        check.due("it stays kept", 2, x.on(2));
        check.due("doors once more", 0, x.who(2));
        x.go(1);
        check.due("keep(2) anew", 3, x.keep(2));
        x.go(1);
        check.due("on(2) anew", 3, x.on(2));
    }
}
