import java.lang.management.ManagementFactory;

/** What calls leave behind in the room: rows are made with the object and used again. */
public final class RoomTest {
    private static final int CALLS = 512;

    public static void main(String[] args) {
        var threads = ManagementFactory.getThreadMXBean();
        if (!(threads instanceof com.sun.management.ThreadMXBean)) {
            System.out.println("this machine counts no bytes");
            return;
        }
        var counter = (com.sun.management.ThreadMXBean) threads;
        FareLimits warm = filled();
        asks(warm);
        long before = counter.getCurrentThreadAllocatedBytes();
        FareLimits x = filled();
        long made = counter.getCurrentThreadAllocatedBytes() - before;
        asks(x);
        long asked = counter.getCurrentThreadAllocatedBytes() - before - made;
        System.out.println("an object with its routes takes " + made + " bytes, " + CALLS + " calls take " + asked);
        Due.holds("an object takes less than 40,000 bytes: " + made, made < 40_000);
        Due.holds("calls take less than 200,000 bytes: " + asked, asked < 200_000);
        Due.end("RoomTest");
    }

    private static FareLimits filled() {
        FareLimits x = new FareLimits();
        x.rule(0, 30);
        x.rule(1, 20);
        for (int f = 0; f < 6; f++) {
            x.fare(f % 4, 9999 - f);
            for (int phase = 0; phase < 4; phase++) {
                x.odds(f, phase, 16);
            }
        }
        for (int i = 0; i < 12; i++) {
            int[] text = {'a', 'b', 'a' + i, '=', '0', '1', '2', '3', ':', '9', '9', '9', '9', '*', '9'};
            for (int letter : text) {
                x.feed(letter);
            }
            x.book();
        }
        return x;
    }

    private static void asks(FareLimits x) {
        for (int i = 0; i < CALLS; i++) {
            switch (i % 8) {
                case 0: x.drawn(20, 20, i / 8 % 2, 0); break;
                case 1: x.booked(0, 20); break;
                case 2: x.image(); break;
                case 3: x.undo(); break;
                case 4: x.gross(20, 30); break;
                case 5: x.kept(5, 20); break;
                case 6: x.route(11, 3); break;
                default: x.spell(); break;
            }
        }
    }
}
