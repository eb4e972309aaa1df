import java.lang.management.ManagementFactory;

/** All calls of one run live in one room: no call but the constructor may make more than an exception. */
public final class RoomTest {
    private static final int CALLS = 512;
    /** An exception with its trace takes a few hundred bytes; the arrays of a ropeway would take far more. */
    private static final long BYTES_A_CALL = 1000;

    private static final Checks CHECKS = new Checks("RoomTest");

    private RoomTest() {
    }

    public static void main(String[] args) {
        OrchardRopeway x = new OrchardRopeway();
        for (int i = 0; i < 20; i++) {
            x.addPicker(40 + i, i % 7, (i + 1) % 7);
        }
        look("pass", () -> x.pass(240));
        look("isConsistent", x::isConsistent);
        look("blockedMinutesByPassing", x::blockedMinutesByPassing);
        look("setSlope", () -> x.setSlope(0, 3));
        look("undo and pass", () -> x.undo() + x.pass(1));
        look("save", x::save);
        look("restore", x::restore);
        look("writeCabin", () -> x.writeCabin(0));
        look("writeStations", x::writeStations);
        look("type and run", () -> typeAndRun(x));
        look("a refused call", () -> Checks.outcome(() -> x.pass(0)));
        CHECKS.end();
    }

    private static int typeAndRun(OrchardRopeway x) {
        String text = "wait;wait;wait;wait;wait;wait;wait;wait;wait;wait;wait;wait";
        for (int i = 0; i < text.length(); i++) {
            x.type(text.charAt(i));
        }
        return x.run();
    }

    private static void look(String name, Checks.Call call) {
        run(call);
        long before = allocated();
        run(call);
        long bytes = allocated() - before;
        CHECKS.due(name + " makes little (" + bytes / CALLS + " bytes a call)", bytes < CALLS * BYTES_A_CALL, true);
    }

    private static void run(Checks.Call call) {
        for (int i = 0; i < CALLS; i++) {
            Checks.outcome(call);
        }
    }

    private static long allocated() {
        return ((com.sun.management.ThreadMXBean) ManagementFactory.getThreadMXBean()).getCurrentThreadAllocatedBytes();
    }
}
