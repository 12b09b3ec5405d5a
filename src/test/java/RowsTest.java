/** Promises 1 to 7: a new object, row, lay, at, tear, copy, mean. */
public final class RowsTest {
    private static final Check check = new Check("RowsTest");
    private static final int BAD = DoorRounds.BAD;

    public static void main(String[] args) {
        newObject();
        row();
        layAndAt();
        tear();
        copy();
        mean();
        check.end();
    }

    private static void newObject() {
        DoorRounds x = new DoorRounds();
        for (int what = 0; what <= 7; what++) {
            check.due("new: count(" + what + ")", 0, x.count(what));
        }
        for (int r = 0; r < 6; r++) {
            check.finding("new: tear(" + r + ")", x, 1, x.tear(r));
        }
        for (int t = 0; t < 4; t++) {
            check.finding("new: fault(" + t + ")", x, 1, x.fault(t));
        }
        for (int k = 0; k < 3; k++) {
            check.finding("new: on(" + k + ")", x, 1, x.on(k));
        }
        check.due("new: back(0)", 0, x.back(0));
    }

    private static void row() {
        DoorRounds x = new DoorRounds();
        check.due("row(0, 0)", 0, x.row(0, 0));
        check.due("row(5, 40)", 40, x.row(5, 40));
        check.due("rows there", 2, x.count(6));
        check.due("row(6, 1)", BAD, x.row(6, 1));
        check.due("row(-1, 1)", BAD, x.row(-1, 1));
        check.due("row(0, 41)", BAD, x.row(0, 41));
        check.due("row(0, max)", BAD, x.row(0, Integer.MAX_VALUE));
        check.due("row(6, -1): BAD ahead of SIZE", BAD, x.row(6, -1));
        check.due("no finding yet", 0, x.finding());
        check.finding("row(5, -1)", x, 5, x.row(5, -1));
        check.finding("row(5, min)", x, 5, x.row(5, Integer.MIN_VALUE));
        check.due("a refused row changes nothing", 1, x.at(5, 39));
        x.lay(5, 3, 77);
        check.due("row anew", 4, x.row(5, 4));
        check.rowIs("row anew is noughts", x, 5, 0, 0, 0, 0);
    }

    private static void layAndAt() {
        DoorRounds x = new DoorRounds();
        x.row(2, 3);
        check.asked("lay(2, 1, 9)", x, 1, 0, x.lay(2, 1, 9));
        check.asked("lay(2, 1, min)", x, 1, 9, x.lay(2, 1, Integer.MIN_VALUE));
        check.asked("at(2, 1)", x, 1, Integer.MIN_VALUE, x.at(2, 1));
        check.asked("at(2, 0)", x, 1, 0, x.at(2, 0));
        x.lay(2, 2, 5);
        x.at(2, 2);
        check.due("lay(6, 0, 1)", BAD, x.lay(6, 0, 1));
        check.due("lay(-1, 0, 1)", BAD, x.lay(-1, 0, 1));
        check.due("at(6, 0)", BAD, x.at(6, 0));
        check.due("at(-1, 0)", BAD, x.at(-1, 0));
        check.finding("lay(0, 9, 1): NOTHING ahead of BEYOND", x, 1, x.lay(0, 9, 1));
        check.finding("at(0, -1): NOTHING ahead of BEYOND", x, 1, x.at(0, -1));
        check.finding("lay(2, 3, 1)", x, 2, x.lay(2, 3, 1));
        check.finding("lay(2, -1, 1)", x, 2, x.lay(2, -1, 1));
        check.finding("at(2, 3)", x, 2, x.at(2, 3));
        check.finding("at(2, -1)", x, 2, x.at(2, -1));
        check.finding("at(2, max)", x, 2, x.at(2, Integer.MAX_VALUE));
        check.due("refused ones leave asked()", 5, x.asked());
    }

    private static void tear() {
        DoorRounds x = new DoorRounds();
        x.row(4, 2);
        check.due("tear(4)", 1, x.tear(4));
        check.finding("tear(4) twice", x, 1, x.tear(4));
        check.finding("at in a torn row", x, 1, x.at(4, 0));
        check.due("tear(6)", BAD, x.tear(6));
        check.due("tear(-1)", BAD, x.tear(-1));
        check.due("no rows there", 0, x.count(6));
    }

    private static void copy() {
        DoorRounds x = new DoorRounds();
        Check.fill(x, 0, 1, 2, 3, 4, 5);
        Check.fill(x, 1, 9, 9, 9);
        check.due("copy(0, 1, 1, 0, 2)", 1, x.copy(0, 1, 1, 0, 2));
        check.rowIs("copied", x, 1, 2, 3, 9);
        check.due("copy within, up", 1, x.copy(0, 0, 0, 1, 4));
        check.rowIs("copied up", x, 0, 1, 1, 2, 3, 4);
        check.due("copy within, down", 1, x.copy(0, 1, 0, 0, 4));
        check.rowIs("copied down", x, 0, 1, 2, 3, 4, 4);
        check.due("copy none at the ends", 1, x.copy(0, 5, 1, 3, 0));
        check.due("copy all", 1, x.copy(1, 0, 0, 2, 3));
        check.rowIs("copied all", x, 0, 1, 2, 2, 3, 9);
        check.due("copy(6, ..)", BAD, x.copy(6, 0, 0, 0, 0));
        check.due("copy(.., -1, ..)", BAD, x.copy(0, 0, -1, 0, 0));
        check.due("copy(.., 6, .., -1): BAD ahead of SIZE", BAD, x.copy(0, 0, 6, 0, -1));
        check.finding("copy: SIZE ahead of NOTHING", x, 5, x.copy(2, 0, 0, 0, -1));
        check.finding("copy: from a missing one", x, 1, x.copy(2, 0, 0, 0, 0));
        check.finding("copy: to a missing one", x, 1, x.copy(0, 99, 2, 0, 0));
        check.finding("copy: too many there", x, 2, x.copy(0, 3, 1, 0, 3));
        check.finding("copy: too many here", x, 2, x.copy(0, 0, 1, 1, 3));
        check.finding("copy: from below 0", x, 2, x.copy(0, -1, 1, 0, 1));
        check.finding("copy: to below 0", x, 2, x.copy(0, 0, 1, -1, 1));
        check.finding("copy: none, but behind the end", x, 2, x.copy(0, 6, 1, 0, 0));
        check.finding("copy: none, but to behind the end", x, 2, x.copy(0, 0, 1, 4, 0));
        check.finding("copy: great numbers", x, 2,
                x.copy(0, Integer.MAX_VALUE, 1, Integer.MAX_VALUE, Integer.MAX_VALUE));
        check.rowIs("refused ones change nothing", x, 0, 1, 2, 2, 3, 9);
    }

    private static void mean() {
        DoorRounds x = new DoorRounds();
        Check.fill(x, 0, 1, 2, 5);
        check.asked("mean(1, 2, 5)", x, 1, 2, x.mean(0));
        Check.fill(x, 0, -1, -2, -5);
        check.asked("mean below 0 is cut, too", x, 1, -2, x.mean(0));
        Check.fill(x, 0, Integer.MAX_VALUE, Integer.MAX_VALUE, Integer.MAX_VALUE);
        check.asked("mean of great ones", x, 1, Integer.MAX_VALUE, x.mean(0));
        Check.fill(x, 0, -7);
        check.asked("mean of one", x, 1, -7, x.mean(0));
        Check.fill(x, 0, Integer.MIN_VALUE, Integer.MIN_VALUE);
        check.asked("mean of least ones", x, 1, Integer.MIN_VALUE, x.mean(0));
        check.due("mean(6)", BAD, x.mean(6));
        check.due("mean(-1)", BAD, x.mean(-1));
        check.finding("mean of a missing one", x, 1, x.mean(1));
        x.row(1, 0);
        check.finding("mean of none", x, 4, x.mean(1));
        check.due("refused ones leave asked()", Integer.MIN_VALUE, x.asked());
    }
}
