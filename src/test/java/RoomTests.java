import java.lang.management.ManagementFactory;

/**
 * What runs of 512 calls take of the room: some 600,000 objects and arrays, and 7.3 million fields and elements. An
 * object takes 16 bytes at least, and an element or a field that the program makes many of takes 4, so that a run of
 * fewer bytes than 16 for each object keeps to both limits.
 */
public final class RoomTests extends Checks {
    private static final long ROOM = 16L * 600_000L;
    private static final int CALLS = 512;
    private static final int VIEWS = 5;

    public static void main(String[] args) {
        for (char kind : "tlsjv".toCharArray()) {
            about = "room of views of the kind " + kind;
            allows(() -> crowded(kind, true));
            allows(() -> crowded(kind, false));
        }
        about = "room of the most outputs";
        allows(RoomTests::mostOutputs);
        end();
    }

    private static void allows(Runnable run) {
        // What the machine itself makes at a first time is not the program's.
        run.run();
        long before = bytesMade();
        run.run();
        long made = bytesMade() - before;
        System.out.println(about + ": " + made + " bytes of " + ROOM);
        is(true, made <= ROOM);
    }

    private static long bytesMade() {
        com.sun.management.ThreadMXBean threads = (com.sun.management.ThreadMXBean) ManagementFactory.getThreadMXBean();
        return threads.getThreadAllocatedBytes(Thread.currentThread().getId());
    }

    private static ViewFoundry full(char kind, boolean oneKey) {
        ViewFoundry f = new ViewFoundry();
        for (int view = 0; view < VIEWS; view++) {
            f.addView(kind, 'm', 'a', kind == 't' ? 1 : 200, 1, 200);
        }
        for (int i = 0; i < 80; i++) {
            f.putRow(0, oneKey ? 1 : i % 8, 300 + i % 50, i % 99);
            f.putRow(1, oneKey ? 1 : i % 8, 999 - i % 50, -i % 99);
            f.putRow(2, oneKey ? 1 : i % 8, 300 + i % 60, i % 7);
        }
        return f;
    }

    /** All is read; then what is dear comes again and again. */
    private static void crowded(char kind, boolean oneKey) {
        ViewFoundry f = full(kind, oneKey);
        int calls = VIEWS + 240;
        for (int turn = 0; calls < CALLS; turn++, calls++) {
            switch (turn % 8) {
                case 0, 1, 2 -> f.read(turn % 3, 20);
                case 3 -> f.isSound();
                case 4 -> f.cut();
                case 5 -> f.complete();
                case 6 -> f.read(0, 20);
                default -> f.crash();
            }
        }
    }

    /** Late rows, each of them told anew by 200 windows of 5 views, and again behind each crash. */
    private static void mostOutputs() {
        ViewFoundry f = new ViewFoundry();
        for (int view = 0; view < VIEWS; view++) {
            f.addView('l', 's', 'a', 200, 1, 200);
        }
        mark(f, 400);
        for (int i = 0; i < 158; i++) {
            f.putRow(i % 2, 7, 200, 99);
        }
        for (int calls = VIEWS + 6 + 158; calls + 12 <= CALLS; calls += 12) {
            for (int i = 0; i < 8; i++) {
                f.read(i % 2, 20);
            }
            f.crash();
            for (int part = 0; part < 3; part++) {
                f.read(part, 1);
            }
        }
    }
}
