/** The edges that the document names for an object as a whole: a new one, its invariants, and its last call. */
public final class WholeEdgesTest extends TestBase {
    private static final int CALLS = 512;

    private WholeEdgesTest() {
    }

    public static void main(String[] args) {
        sentence("Promise 1: Creates a ropeway without pickers, at time 0", WholeEdgesTest::newRopeway);
        sentence("Promise 42: Returns true if the invariants hold", WholeEdgesTest::invariants);
        sentence("An object is used for at most 512 calls after it has been made", WholeEdgesTest::upToTheLastCall);
        sentence("A method changes nothing of another object", WholeEdgesTest::twoRopeways);
        CHECKS.end();
    }

    private static void newRopeway() {
        OrchardRopeway x = make();
        due("pickers", x.pickers(), 0);
        due("isPresent(0)", x.isPresent(0), false);
        due("came", x.came(), 0);
        due("cameByParts", x.cameByParts(), 0);
        due("arrived", x.arrived(), 0);
        due("time", x.time(), 0);
        due("meetings", x.meetings(), 0);
        due("energy", x.energy(), 0L);
        due("heat", x.heat(), 0);
        due("isBlocked", x.isBlocked(), false);
        due("blockedMinutes", x.blockedMinutes(), 0);
        due("imbalance", x.imbalance(), 0);
        due("capacity", x.capacity(), 4);
        due("occupancy", x.occupancy(), 0.0f);
        due("waitingStations", x.waitingStations(), 0);
        refused("busiestStation", ELEMENT, x::busiestStation);
        refused("pickerByWeight", ELEMENT, () -> x.pickerByWeight(0));
        refused("meanJourney", ARITHMETIC, x::meanJourney);
        refused("charAt", INDEX, () -> x.charAt(0));
        refused("errorPosition", ELEMENT, x::errorPosition);
        refused("failedCommand", ELEMENT, x::failedCommand);
        refused("undo", STATE, x::undo);
        refused("restore", STATE, x::restore);
        due("the buffer is empty", x.type('w'), 1);
    }

    private static void dueConsistent(String name, OrchardRopeway x) {
        due("isConsistent of " + name, x.isConsistent(), true);
    }

    private static void invariants() {
        dueConsistent("a new ropeway", make());
        for (int place = 0; place <= 24; place++) {
            if (place < 24) {
                dueConsistent("place " + place + " upwards", at(place, true));
            }
            if (place > 0) {
                dueConsistent("place " + place + " downwards", at(place, false));
            }
        }
        dueConsistent("no slopes", withEverySlope(0));
        dueConsistent("the steepest slopes", withEverySlope(9));
        for (int heat : new int[] {1, 49, 50, 51, 98, 99, 100, 101, 108}) {
            OrchardRopeway x = withHeat(heat);
            for (int minute = 0; minute < 20; minute++) {
                dueConsistent("heat " + x.heat(), x);
                x.pass(1);
            }
        }
        dueConsistent("heat 140", hottest());
        for (int capacity = 1; capacity <= 6; capacity++) {
            OrchardRopeway x = withTwentyPickers();
            x.setCapacity(capacity);
            for (int minute = 0; minute < 100; minute++) {
                x.pass(1);
                dueConsistent("capacity " + capacity, x);
            }
        }
        OrchardRopeway y = withRiders();
        y.removePicker(0);
        dueConsistent("one who went", y);
        y.save();
        y.pass(100);
        dueConsistent("those who arrived", y);
        y.undo();
        dueConsistent("an undone change", y);
        y.restore();
        dueConsistent("a restored state", y);
    }

    private static void upToTheLastCall() {
        OrchardRopeway minutes = make();
        for (int call = 1; call < CALLS; call++) {
            minutes.pass(240);
        }
        due("time after 511 calls of pass(240)", minutes.time(), 122640);

        OrchardRopeway pickers = make();
        for (int number = 0; number < CALLS / 2; number++) {
            due("addPicker", pickers.addPicker(70, 6, 0), number);
            due("removePicker", pickers.removePicker(number), 0);
        }

        OrchardRopeway characters = make();
        for (int call = 1; call <= CALLS; call++) {
            due("type", Checks.outcome(() -> characters.type('t')), typed(call));
        }

        OrchardRopeway undos = make();
        for (int call = 0; call < CALLS - 12; call++) {
            undos.pass(1);
        }
        for (int left = 7; left >= 0; left--) {
            due("undo", undos.undo(), left);
        }
        refused("undo of the ninth", STATE, undos::undo);
        due("time", undos.time(), CALLS - 20);
        dueLongAsOfModel();
    }

    private static Object typed(int call) {
        return call <= 60 ? (Object) call : "throws " + STATE.getName();
    }

    /** Steep slopes and many pickers for as many minutes as there can be. */
    private static void dueLongAsOfModel() {
        OrchardRopeway x = make();
        Model model = new Model();
        for (int segment = 0; segment < 6; segment++) {
            due("setSlope", x.setSlope(segment, segment % 2 * 9), model.setSlope(segment, segment % 2 * 9));
        }
        for (int i = 0; i < 240; i++) {
            int from = i % 7;
            int to = (i + 1 + i % 5) % 7;
            int weight = 40 + i % 81;
            due("addPicker", Checks.outcome(() -> x.addPicker(weight, from, to)),
                    Checks.outcome(() -> model.addPicker(weight, from, to)));
            due("pass", x.pass(240), model.pass(240));
        }
        due("time", x.time(), model.time());
        due("energy", x.energy(), model.energy());
        due("heat", x.heat(), model.heat());
        due("meetings", x.meetings(), model.meetings());
        due("arrived", x.arrived(), model.arrived());
        due("meanJourney", x.meanJourney(), model.meanJourney());
        due("came", x.came(), model.came());
        due("cameByParts", x.cameByParts(), model.came());
    }

    private static void twoRopeways() {
        OrchardRopeway x = withRiders();
        OrchardRopeway y = make();
        y.setSlope(0, 9);
        y.save();
        y.pass(240);
        typeAll(y, "waits");
        refused("run", ARGUMENT, y::run);
        y.writeStations();
        due("differences by calls of another object",
                Portrait.difference(Portrait.of(withRiders()), Portrait.of(x)), "");
        refused("nothing is saved by another object", STATE, x::restore);
    }
}
