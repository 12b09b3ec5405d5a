/** Promises 41 to 44: rent, dearest, mends, worst. */
public final class RentsMendingTest {
    private static final Check check = new Check("RentsMendingTest");
    private static final int BAD = DoorRounds.BAD, FULL = DoorRounds.FULL, STATE = DoorRounds.STATE;
    private static final int NONE = DoorRounds.NONE;

    public static void main(String[] args) {
        rent();
        dearest();
        wrongRows();
        mends();
        worst();
        check.end();
    }

    private static void rent() {
        DoorRounds x = Check.with("d10 s0:+3:1 f6:+0:9");
        Check.fill(x, 1, 1, 2, 4, 8, 16, 32, 64, 99, 0, 3);
        // 0, 3, then 6 is taken: 7, 0, ..
        check.due("this week", 1, x.rent(1, 0, 1));
        check.due("two weeks", 9, x.rent(1, 0, 2));
        check.due("three weeks", 108, x.rent(1, 0, 3));
        check.due("sixty weeks", 108 * 20, x.rent(1, 0, 60));
        check.due("the fixed one", 64 * 60, x.rent(1, 1, 60));
        x.go(1);
        check.due("from now on", 8, x.rent(1, 0, 1));
        check.due("it stays now", 1, x.count(2));
    }

    private static void fraction(DoorRounds x, int shop, long upper, long lower, int got) {
        check.due("dearest", shop, got);
        check.due("upper()", upper, x.upper());
        check.due("lower()", lower, x.lower());
    }

    private static void dearest() {
        DoorRounds x = Check.with("d10 s0:+3:1 f6:+0:9 f8:+1:1");
        Check.fill(x, 1, 1, 2, 4, 8, 16, 32, 64, 99, 4, 3);
        check.due("upper() before", 0, x.upper());
        check.due("lower() before", 1, x.lower());
        fraction(x, 1, 64, 69, x.dearest(1, 1));
        // 192 of 108, 192 and 12 together.
        fraction(x, 1, 8, 13, x.dearest(1, 3));
        Check.fill(x, 2, 5, 0, 0, 0, 0, 0, 5, 0, 5, 0);
        fraction(x, 0, 1, 3, x.dearest(2, 1));
        Check.fill(x, 2, 0, 0, 0, 7, 0, 0, 0, 0, 0, 0);
        fraction(x, 0, 1, 1, x.dearest(2, 2));
        check.finding("all rents are 0", x, 4, x.dearest(2, 1));
        Check.fill(x, 2, 0, 0, 0, 0, 0, 0, 0, 0, 1, 0);
        fraction(x, 2, 1, 1, x.dearest(2, 1));
        check.due("upper() stays", 1, x.upper());
        DoorRounds none = Check.with("d10");
        Check.fill(none, 0, 1, 1, 1, 1, 1, 1, 1, 1, 1, 1);
        check.finding("no shops", none, 4, none.dearest(0, 1));
        DoorRounds empty = new DoorRounds();
        empty.row(0, 0);
        check.finding("no square, an empty row", empty, 4, empty.dearest(0, 1));
        empty.row(0, 1);
        check.finding("no square, a row", empty, 5, empty.dearest(0, 1));
    }

    private static void wrongRows() {
        DoorRounds x = Check.with("d10 s0:+3:1");
        check.due("rent(6, 0, 1)", BAD, x.rent(6, 0, 1));
        check.due("rent(-1, 0, 1)", BAD, x.rent(-1, 0, 1));
        check.due("rent(0, 1, 1)", BAD, x.rent(0, 1, 1));
        check.due("rent(0, -1, 1)", BAD, x.rent(0, -1, 1));
        check.due("rent(0, 0, 0)", BAD, x.rent(0, 0, 0));
        check.due("rent(0, 0, 61)", BAD, x.rent(0, 0, 61));
        check.due("dearest(6, 1)", BAD, x.dearest(6, 1));
        check.due("dearest(-1, 1)", BAD, x.dearest(-1, 1));
        check.due("dearest(0, 0)", BAD, x.dearest(0, 0));
        check.due("dearest(0, 61)", BAD, x.dearest(0, 61));
        check.finding("rent of a missing row", x, 1, x.rent(0, 0, 1));
        check.finding("dearest of a missing row", x, 1, x.dearest(0, 1));
        Check.fill(x, 0, 1, 1, 1, 1, 1, 1, 1, 1, 100);
        check.finding("rent: 9 places; SIZE ahead of UNLIKE", x, 5, x.rent(0, 0, 1));
        check.finding("dearest: 9 places", x, 5, x.dearest(0, 1));
        x.row(0, 11);
        check.finding("rent: 11 places", x, 5, x.rent(0, 0, 1));
        Check.fill(x, 0, 1, 1, 1, 1, 1, 1, 1, 1, 1, 100);
        check.finding("rent: 100", x, 3, x.rent(0, 0, 1));
        check.finding("dearest: 100", x, 3, x.dearest(0, 1));
        Check.fill(x, 0, -1, 1, 1, 1, 1, 1, 1, 1, 1, 1);
        check.finding("rent: -1", x, 3, x.rent(0, 0, 1));
        check.finding("dearest: -1", x, 3, x.dearest(0, 1));
        Check.fill(x, 0, 0, 1, 1, 1, 1, 1, 1, 1, 1, -1);
        check.finding("UNLIKE ahead of NOUGHT", x, 3, x.dearest(0, 1));
        Check.fill(x, 0, 99, 1, 1, 1, 1, 1, 1, 1, 1, 0);
        check.due("99 and 0 are fine", 99, x.rent(0, 0, 1));
    }

    private static void mends() {
        DoorRounds x = Check.with("d10 s0:+1:1 f5:+0:9");
        // 0, 1, 2, 3, 4, 6; with 2 shut: 0, 1, 3, 4, 6, 7.
        check.asked("not yet", x, 0, NONE, x.mends(2, 1));
        check.asked("in week 2", x, 1, 2, x.mends(2, 2));
        check.asked("the fixed one leaves its door", x, 1, 1, x.mends(5, 1));
        check.asked("the door that it has now", x, 0, NONE, x.mends(0, 8));
        check.due("it stays open", 0, x.count(4));
        check.due("it stays now", 0, x.count(2));
        // With 5 shut the fixed one goes to 6; shop 0 comes to 4, 7 (5 shut, 6 taken) in week 5.
        check.asked("both", x, 2, 1, x.mends(5, 5));
        // Alike again: with 8 shut, shop 0 is 7, 9, 0, .. one ahead.
        check.asked("sixty weeks", x, 1, 7, x.mends(8, 60));
        check.due("mends(10, 1)", BAD, x.mends(10, 1));
        check.due("mends(-1, 1)", BAD, x.mends(-1, 1));
        check.due("mends(0, 0)", BAD, x.mends(0, 0));
        check.due("mends(0, 61)", BAD, x.mends(0, 61));
        x.shut(1);
        x.shut(2);
        check.due("shut already", STATE, x.mends(2, 1));
        check.asked("more than those that are shut", x, 1, 1, x.mends(3, 1));
        x.shut(9);
        check.due("three are shut", FULL, x.mends(3, 1));
        check.due("STATE ahead of FULL", STATE, x.mends(9, 1));
        check.due("BAD ahead of STATE", BAD, x.mends(9, 0));
    }

    private static void worst() {
        check.due("worst in no square", STATE, new DoorRounds().worst(1));
        check.due("BAD ahead of STATE", BAD, new DoorRounds().worst(0));
        DoorRounds x = Check.with("d10 s3:+1:1 s4:+1:2 f9:+0:9");
        // With 5 shut, shop 1 comes to 6, shop 0 to 4 as wanted; with 4 shut, shop 0 to 6 behind shop 1 at 5.
        check.asked("the first of alike ones", x, 4, 1, x.worst(1));
        x = Check.with("d10 s3:+2:1 s4:+1:2");
        check.asked("both want it", x, 5, 2, x.worst(1));
        check.due("it stays open", 0, x.count(4));
        x.shut(5);
        check.asked("of those that are not shut", x, 6, 2, x.worst(1));
        x = Check.with("d10");
        check.asked("no shops: the first door", x, 0, 0, x.worst(60));
        x.shut(0);
        check.asked("the first that is not shut", x, 1, 0, x.worst(60));
        x.shut(5);
        x.shut(6);
        check.due("three are shut", FULL, x.worst(60));
        check.due("worst(61)", BAD, x.worst(61));
        check.due("worst(0)", BAD, x.worst(0));
    }
}
