import java.lang.management.ManagementFactory;

/** All calls of one run live in one room: no call but the constructor may make more than an exception. */
public final class RoomTest {
    private static final int CALLS = 480;
    /** An exception with its trace takes a few hundred bytes; the arrays of a ropeway would take far more. */
    private static final long BYTES_A_CALL = 1000;
    private static final long BYTES_OF_A_ROPEWAY = 100_000;
    private static final String TWELVE_WAITS = "wait;wait;wait;wait;wait;wait;wait;wait;wait;wait;wait;wait";

    private static final Checks CHECKS = new Checks("RoomTest");

    private interface Step {
        Object on(OrchardRopeway x);
    }

    private RoomTest() {
    }

    public static void main(String[] args) {
        look("pass", 1, x -> x.pass(240));
        look("isConsistent", 1, OrchardRopeway::isConsistent);
        look("blockedMinutesByPassing", 1, OrchardRopeway::blockedMinutesByPassing);
        look("unitsUntilByMoving", 1, x -> x.unitsUntilByMoving(0, 0));
        look("pickerByWeight", 1, x -> x.pickerByWeight(19));
        look("setSlope", 1, x -> x.setSlope(0, 3));
        look("pass and undo", 2, x -> x.pass(1) + x.undo());
        look("removePicker and addPicker", 3, x -> x.removePicker(x.waitingAt(6, 0)) + x.addPicker(70, 6, 0));
        look("save", 1, OrchardRopeway::save);
        look("save and restore", 2, x -> x.save() + x.restore());
        look("writeCabin", 1, x -> x.writeCabin(0));
        look("writeStations", 1, OrchardRopeway::writeStations);
        look("type and run", TWELVE_WAITS.length() + 1, RoomTest::typeAndRun);
        look("a refused call", 1, x -> x.pass(0));
        lookAtConstructor();
        CHECKS.end();
    }

    private static OrchardRopeway withTwentyPickers() {
        OrchardRopeway x = new OrchardRopeway();
        for (int i = 0; i < 20; i++) {
            x.addPicker(40 + i, i % 7, (i + 1) % 7);
        }
        return x;
    }

    private static int typeAndRun(OrchardRopeway x) {
        for (int i = 0; i < TWELVE_WAITS.length(); i++) {
            x.type(TWELVE_WAITS.charAt(i));
        }
        return x.run();
    }

    private static void look(String name, int callsAStep, Step step) {
        run(withTwentyPickers(), callsAStep, step);
        OrchardRopeway x = withTwentyPickers();
        long before = allocated();
        run(x, callsAStep, step);
        long bytes = allocated() - before;
        CHECKS.due(name + " makes little (" + bytes / CALLS + " bytes a call)", bytes < CALLS * BYTES_A_CALL, true);
    }

    private static void run(OrchardRopeway x, int callsAStep, Step step) {
        for (int calls = callsAStep; calls <= CALLS; calls += callsAStep) {
            Checks.outcome(() -> step.on(x));
        }
    }

    private static void lookAtConstructor() {
        withTwentyPickers();
        long before = allocated();
        new OrchardRopeway();
        long bytes = allocated() - before;
        CHECKS.due("a ropeway is small (" + bytes + " bytes)", bytes < BYTES_OF_A_ROPEWAY, true);
    }

    private static long allocated() {
        return ((com.sun.management.ThreadMXBean) ManagementFactory.getThreadMXBean()).getCurrentThreadAllocatedBytes();
    }
}
