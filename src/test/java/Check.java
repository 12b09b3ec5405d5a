/** Counts the answers that are not as due; end() ends the program with exit code 1 if there was one. */
final class Check {
    private final String name;
    private int asked = 0;
    private int wrong = 0;

    Check(String name) {
        this.name = name;
    }

    void due(String what, long want, long got) {
        asked++;
        if (want != got) {
            wrong++;
            System.out.println(name + ": " + what + " answered " + got + ", due is " + want);
        }
    }

    void holds(String what, boolean right) {
        asked++;
        if (!right) {
            wrong++;
            System.out.println(name + ": " + what + " does not hold");
        }
    }

    /** A call that should be refused with a FINDING, and which. */
    void finding(String what, DoorRounds x, int due, int got) {
        due(what, DoorRounds.FINDING, got);
        due(what + ": finding()", due, x.finding());
    }

    /** A call that should tell something by asked(), too. */
    void asked(String what, DoorRounds x, int due, int dueAsked, int got) {
        due(what, due, got);
        due(what + ": asked()", dueAsked, x.asked());
    }

    static void write(DoorRounds x, int t, String text) {
        x.text(t, text.length());
        for (int i = 0; i < text.length(); i++) {
            x.put(t, i, text.charAt(i));
        }
    }

    /** A new object with a SQUARE; TEXT 3 holds it. */
    static DoorRounds with(String text) {
        DoorRounds x = new DoorRounds();
        write(x, 3, text);
        int shops = x.square(3);
        if (shops < 0) {
            throw new IllegalArgumentException("no square: " + text);
        }
        return x;
    }

    /** A ROW with these places. */
    static void fill(DoorRounds x, int r, int... places) {
        x.row(r, places.length);
        for (int i = 0; i < places.length; i++) {
            x.lay(r, i, places[i]);
        }
    }

    void rowIs(String what, DoorRounds x, int r, int... places) {
        for (int i = 0; i < places.length; i++) {
            due(what + ": at(" + r + ", " + i + ")", 1, x.at(r, i));
            due(what + ": place " + i, places[i], x.asked());
        }
        finding(what + ": at(" + r + ", " + places.length + ")", x, 2, x.at(r, places.length));
    }

    void end() {
        System.out.println(name + ": " + asked + " answers, " + wrong + " wrong");
        if (wrong != 0) {
            System.exit(1);
        }
    }
}
