import java.lang.management.ManagementFactory;

/** That calls make no objects: all calls of a run live in one room. And that no call throws, whatever its numbers. */
public final class RoomTest {
    private static final Check check = new Check("RoomTest");
    private static final int[] NUMBERS = {0, 1, 2, 5, 6, 7, 30, 127, -1, -9, 40, 60, 400, Integer.MAX_VALUE, Integer.MIN_VALUE};
    private static final String SQUARE = "d30 s0:+1:50 s5:-2:40 f9:+3:30 y12:+4:90 n3:+2:20:3 o16:+3:70:4 p18:-1:60:2";

    public static void main(String[] args) {
        noCallThrows();
        noCallMakesObjects();
        check.end();
    }

    private static void noCallThrows() {
        long sum = 0;
        for (int start = 0; start < 4; start++) {
            for (int a : NUMBERS) {
                for (int b : NUMBERS) {
                    DoorRounds x = start == 0 ? new DoorRounds() : Check.with(start == 1 ? "d10" : SQUARE);
                    if (start == 3) {
                        x.shut(1);
                        x.shut(12);
                        x.go(37);
                        x.image(1);
                        x.doors(0);
                        x.row(5, 30);
                    }
                    sum += every(x, a, b, NUMBERS[Math.floorMod(a + b, NUMBERS.length)]);
                }
            }
        }
        check.holds("all calls came back", sum != 0);
    }

    private static void noCallMakesObjects() {
        com.sun.management.ThreadMXBean room =
                (com.sun.management.ThreadMXBean) ManagementFactory.getThreadMXBean();
        DoorRounds x = Check.with(SQUARE);
        long own = Thread.currentThread().getId();
        every(x, 3, 2, 1);
        long before = room.getThreadAllocatedBytes(own);
        for (int i = 0; i < 200; i++) {
            every(x, i % 4, 1 + i % 3, i % 5);
        }
        long made = room.getThreadAllocatedBytes(own) - before;
        // A call that made but one array of a few places would come to more in 200 times 53 calls.
        check.holds("no objects are made, " + made + " bytes", made < 4000);
    }

    private static long every(DoorRounds x, int a, int b, int c) {
        long sum = x.row(a, b) + x.lay(a, b, c) + x.at(a, b) + x.copy(a, b, c, a, b) + x.mean(a);
        sum += x.put(a, b, c) + x.fault(3) + x.square(3) + x.about(a, b) + x.mark(a, b) + x.shut(a) + x.open(b);
        sum += x.go(a) + x.doors(a) + x.who(a) + x.wants(a) + x.where(a, b) + x.plainly(a, b) + x.again() + x.keep(a);
        sum += x.on(b) + x.beside(a, b) + x.comes(a, b) + x.meets(a, b, c) + x.never(a, b, c) + x.walk(a, b);
        sum += x.round(a, b) + x.best(a, b, c) + x.errands(a, b, c, a) + x.agree(a, b, c) + x.joins(a, b) + x.quiet();
        sum += x.busy() + x.note(a, b, c) + x.back(a) + x.steps(a) + x.kinds(a) + x.rent(5, a, b) + x.dearest(5, b);
        sum += x.rent(a, b, c) + x.dearest(a, b) + x.mends(a, b) + x.worst(b) + x.image(a) + x.gone(1) + x.gone(a);
        sum += x.asked() + x.upper() + x.lower() + x.count(a) + x.finding() + x.findings(a) + x.digest();
        sum += x.square(a) + x.fault(a) + x.text(a, b) + x.tear(c);
        return sum;
    }
}
