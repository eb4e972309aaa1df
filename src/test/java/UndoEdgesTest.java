import java.util.ArrayList;
import java.util.List;
import java.util.Map;

/** The edges that the document names for undo and snapshots, sentence by sentence. */
public final class UndoEdgesTest extends TestBase {
    private interface Step {
        Object on(OrchardRopeway x);
    }

    private UndoEdgesTest() {
    }

    public static void main(String[] args) {
        sentence("The 8 latest changes can be undone", UndoEdgesTest::eightChanges);
        sentence("Promise 50: Throws IllegalStateException if no change can be undone", UndoEdgesTest::nothingToUndo);
        sentence("A change is a successful call of addPicker, removePicker, setSlope, turn, setCapacity, pass or run",
                UndoEdgesTest::everyKindOfChange);
        sentence("A change is a successful call: also one that sets the value that there was", UndoEdgesTest::changesIntoTheSame);
        sentence("A change is a successful call: not one that is refused", UndoEdgesTest::refusedCallsAreNoChanges);
        sentence("A change is a successful call of addPicker .. run: not of any other", UndoEdgesTest::otherCallsAreNoChanges);
        sentence("Undoes the latest change that was not undone", UndoEdgesTest::changesBehindUndo);
        sentence("consists of everything except the program buffer, the error position, the failed command and the output line",
                UndoEdgesTest::whatIsNotState);
        sentence("Promise 51: Saves the state in place of the state that was saved before", UndoEdgesTest::savedInPlace);
        sentence("Returns the number of pickers who are present: none and 20", UndoEdgesTest::pickersOfSavedStates);
        sentence("Promise 52: Throws IllegalStateException if no state was saved", UndoEdgesTest::nothingSaved);
        sentence("Restores the saved state, which stays saved", UndoEdgesTest::staysSaved);
        sentence("Afterwards no change can be undone", UndoEdgesTest::nothingToUndoAfterRestore);
        sentence("The state that is undone, saved and restored consists of everything", UndoEdgesTest::wholeStates);
        CHECKS.end();
    }

    private static void eightChanges() {
        for (int changes = 1; changes <= 20; changes++) {
            OrchardRopeway x = make();
            for (int i = 0; i < changes; i++) {
                x.pass(i + 1);
            }
            int undoable = Math.min(changes, 8);
            for (int left = undoable - 1; left >= 0; left--) {
                due("undo of " + changes, x.undo(), left);
                int kept = changes - undoable + left;
                due("time with " + kept + " changes", x.time(), kept * (kept + 1) / 2);
            }
            refused("one undo more of " + changes, STATE, x::undo);
            int kept = changes - undoable;
            due("time after the refusal", x.time(), kept * (kept + 1) / 2);
        }
    }

    private static void nothingToUndo() {
        OrchardRopeway x = make();
        refused("a new ropeway", STATE, x::undo);
        x.pass(1);
        due("one change", x.undo(), 0);
        refused("the undo itself cannot be undone", STATE, x::undo);
        refused("nor later", STATE, x::undo);
        due("time", x.time(), 0);
    }

    private static void everyKindOfChange() {
        dueUndone("addPicker", x -> x.addPicker(70, 1, 6));
        dueUndone("removePicker", x -> x.removePicker(0));
        dueUndone("setSlope", x -> x.setSlope(3, 9));
        dueUndone("turn", OrchardRopeway::turn);
        dueUndone("setCapacity", x -> x.setCapacity(6));
        dueUndone("pass(1)", x -> x.pass(1));
        dueUndone("pass(240)", x -> x.pass(240));
        dueUndone("run", x -> runText(x, "wait"));
        dueUndone("run of many commands", x -> runText(x, "turn;slope 0=9;picker 40 0>6;capacity 1;remove 0;wait 240"));
    }

    private static void dueUndone(String name, Step change) {
        OrchardRopeway x = withRiders();
        change.on(x);
        String changed = Portrait.difference(Portrait.ofState(withRiders()), Portrait.ofState(x));
        due(name + " changes something", changed.isEmpty(), false);

        OrchardRopeway y = withRiders();
        change.on(y);
        due("undo of " + name, y.undo(), 4);
        due("differences after undo of " + name,
                Portrait.difference(Portrait.ofState(withRiders()), Portrait.ofState(y)), "");
        due("undo of the change before " + name, y.undo(), 3);
        due("time before the first minute", y.time(), 0);
    }

    private static void changesIntoTheSame() {
        OrchardRopeway x = make();
        due("the same slope", x.setSlope(0, 2), 2);
        due("the same capacity", x.setCapacity(4), 4);
        x.pass(4);
        runText(x, "turn;turn");
        due("undo of two turns", x.undo(), 3);
        due("undo of pass", x.undo(), 2);
        due("undo of the capacity", x.undo(), 1);
        due("undo of the slope", x.undo(), 0);
    }

    private static void refusedCallsAreNoChanges() {
        OrchardRopeway x = withRiders();
        refused("addPicker", ARGUMENT, () -> x.addPicker(39, 0, 1));
        refused("removePicker", STATE, () -> x.removePicker(1));
        refused("setSlope", ARGUMENT, () -> x.setSlope(0, 10));
        refused("setCapacity", ARGUMENT, () -> x.setCapacity(7));
        refused("pass", ARGUMENT, () -> x.pass(0));
        refused("run", ARGUMENT, x::run);
        typeAll(x, "wait;capacity 0");
        refused("run of a command that fails", UNSUPPORTED, x::run);
        refused("restore", STATE, x::restore);
        due("undo", x.undo(), 3);
        refused("turn", UNSUPPORTED, x::turn);
        due("undo", x.undo(), 2);
        due("undo", x.undo(), 1);
        due("undo", x.undo(), 0);
        refused("undo", STATE, x::undo);
    }

    private static void otherCallsAreNoChanges() {
        OrchardRopeway x = make();
        x.pass(1);
        Portrait.of(x);
        x.writeStations();
        x.writeCabin(0);
        x.type('w');
        x.save();
        due("undo", x.undo(), 0);
        due("time", x.time(), 0);
    }

    private static void changesBehindUndo() {
        OrchardRopeway x = make();
        for (int i = 0; i < 8; i++) {
            x.pass(1);
        }
        x.undo();
        x.undo();
        x.pass(10);
        due("the new change", x.undo(), 6);
        due("time after it", x.time(), 6);
        due("then the one before those that were undone", x.undo(), 5);
        due("time after it", x.time(), 5);
        x.pass(20);
        x.pass(20);
        x.pass(20);
        for (int left = 7; left >= 0; left--) {
            due("undo", x.undo(), left);
        }
        due("time after all", x.time(), 0);
        refused("no more", STATE, x::undo);
    }

    private static void whatIsNotState() {
        for (Step back : new Step[] {OrchardRopeway::undo, OrchardRopeway::restore}) {
            OrchardRopeway x = make();
            x.save();
            typeAll(x, "turn");
            refused("run", UNSUPPORTED, x::run);
            typeAll(x, "waits");
            refused("run", ARGUMENT, x::run);
            x.pass(3);
            x.writeCabin(0);
            typeAll(x, "wait 7");
            back.on(x);
            due("time", x.time(), 0);
            due("output line", output(x, 4), "0@3+");
            refused("its end", INDEX, () -> x.charAt(4));
            due("error position", x.errorPosition(), 4);
            due("failed command", x.failedCommand(), 0);
            due("buffer", x.type('0'), 7);
            due("its program", x.run(), 1);
            due("its minutes", x.time(), 70);
        }
    }

    private static void savedInPlace() {
        OrchardRopeway x = make();
        x.save();
        x.pass(5);
        x.save();
        x.pass(5);
        x.restore();
        due("the later state", x.time(), 5);
        x.save();
        x.pass(5);
        x.restore();
        due("the same state saved again", x.time(), 5);
    }

    private static void pickersOfSavedStates() {
        OrchardRopeway x = make();
        due("save of none", x.save(), 0);
        letCome(x, 20, 1, 2);
        due("restore of none", x.restore(), 0);
        due("pickers", x.pickers(), 0);
        letCome(x, 20, 1, 2);
        due("save of 20", x.save(), 20);
        for (int number = 0; number < 20; number++) {
            x.removePicker(number);
        }
        due("restore of 20", x.restore(), 20);
        due("pickers", x.pickers(), 20);
        x.pass(8);
        due("save of 16", x.save(), 16);
        OrchardRopeway riding = withRiders();
        due("riders are present", riding.save(), 3);
    }

    private static void nothingSaved() {
        OrchardRopeway x = make();
        refused("a new ropeway", STATE, x::restore);
        x.pass(1);
        refused("a change saves nothing", STATE, x::restore);
        due("nothing is lost", x.undo(), 0);
        refused("undo saves nothing", STATE, x::restore);
        x.save();
        due("a saved state", x.restore(), 0);
    }

    private static void staysSaved() {
        OrchardRopeway x = withRiders();
        x.save();
        for (int i = 0; i < 3; i++) {
            x.pass(50);
            x.addPicker(70, 2, 3);
            x.setSlope(3, i);
            due("restore", x.restore(), 3);
            due("time", x.time(), 4);
            due("slope(3)", x.slope(3), 2);
        }
        due("restore twice", x.restore(), 3);
        OrchardRopeway y = make();
        y.pass(2);
        y.save();
        y.undo();
        due("time after undo", y.time(), 0);
        y.restore();
        due("an undo behind save leaves it saved", y.time(), 2);
    }

    private static void nothingToUndoAfterRestore() {
        OrchardRopeway x = make();
        x.pass(1);
        x.pass(1);
        x.save();
        x.pass(1);
        x.restore();
        refused("neither changes before save nor behind it", STATE, x::undo);
        due("time", x.time(), 2);
        for (int i = 0; i < 9; i++) {
            x.pass(1);
        }
        for (int left = 7; left >= 0; left--) {
            due("later changes can be undone", x.undo(), left);
        }
        refused("eight of them", STATE, x::undo);
        due("time", x.time(), 3);
    }

    /** The whole of a run of changes comes back, step by step, also in what happens from there on. */
    private static void wholeStates() {
        Step[] changes = {
            x -> x.addPicker(120, 1, 4), x -> x.addPicker(40, 5, 0), x -> x.setSlope(1, 5), x -> x.pass(9),
            x -> x.addPicker(99, 3, 6), x -> x.setCapacity(1), x -> x.pass(3), OrchardRopeway::turn, x -> x.pass(40),
            x -> x.addPicker(80, 6, 2), x -> x.removePicker(3), x -> runText(x, "slope 5=9;wait 30"), x -> x.pass(100),
        };
        List<Map<String, Object>> portraits = new ArrayList<>();
        for (int steps = 0; steps <= changes.length; steps++) {
            portraits.add(laterPortrait(afterSteps(changes, steps)));
        }
        for (int steps = 0; steps <= changes.length; steps++) {
            for (int undone = 1; undone <= Math.min(steps, 8); undone++) {
                OrchardRopeway x = afterSteps(changes, steps);
                for (int i = 0; i < undone; i++) {
                    x.undo();
                }
                due("differences after " + steps + " steps and " + undone + " back",
                        Portrait.difference(portraits.get(steps - undone), laterPortrait(x)), "");
            }
        }
        for (int steps = 0; steps <= changes.length; steps++) {
            OrchardRopeway x = afterSteps(changes, steps);
            x.save();
            for (int later = steps; later < changes.length; later++) {
                changes[later].on(x);
            }
            x.restore();
            due("differences after restore of step " + steps,
                    Portrait.difference(portraits.get(steps), laterPortrait(x)), "");
        }
    }

    private static OrchardRopeway afterSteps(Step[] changes, int steps) {
        OrchardRopeway x = make();
        for (int i = 0; i < steps; i++) {
            changes[i].on(x);
        }
        return x;
    }

    private static Map<String, Object> laterPortrait(OrchardRopeway x) {
        Map<String, Object> now = Portrait.ofState(x);
        int picker = x.addPicker(77, 2, 5);
        x.pass(55);
        now.put("the next picker", picker);
        now.put("later cabin 0", cabinLine(x, 0));
        now.put("later cabin 1", cabinLine(x, 1));
        now.put("later mean", Checks.outcome(x::meanJourney));
        now.put("later heat", x.heat());
        now.put("later energy", x.energy());
        return now;
    }
}
