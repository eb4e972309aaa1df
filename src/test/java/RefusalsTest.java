import java.util.ArrayList;
import java.util.List;
import java.util.Map;

/**
 * Every call that the document refuses, at every condition and in several situations: the exception is the one that
 * is listed first, and nothing that any later call could tell has changed.
 */
public final class RefusalsTest extends TestBase {
    private interface Refused {
        Object on(OrchardRopeway x);
    }

    private interface Index {
        Object on(OrchardRopeway x, int index);
    }

    private static final Made[] ANY = {
        TestBase::make, RefusalsTest::busy, RefusalsTest::busyAtStation, TestBase::withTwentyPickers,
        RefusalsTest::blocked, () -> at(24, false)
    };
    private static final Made[] FULL = {TestBase::withTwentyPickers, RefusalsTest::fullWithRiders};
    private static final Made[] WITH_RIDERS = {RefusalsTest::busy, RefusalsTest::busyAtStation};
    private static final Made[] BETWEEN = {RefusalsTest::busy, () -> at(23, true), () -> at(1, false)};

    private RefusalsTest() {
    }

    public static void main(String[] args) {
        sentence("addPicker throws IndexOutOfBoundsException first", RefusalsTest::addPickerByStations);
        sentence("addPicker throws IllegalArgumentException second", RefusalsTest::addPickerByArguments);
        sentence("addPicker throws IllegalStateException third", RefusalsTest::addPickerByCount);
        sentence("removePicker throws NoSuchElementException or IllegalStateException", RefusalsTest::removePicker);
        sentence("setSlope throws IndexOutOfBoundsException first", RefusalsTest::setSlopeBySegment);
        sentence("setSlope throws IllegalArgumentException second", RefusalsTest::setSlopeBySlope);
        sentence("turn throws IllegalStateException or UnsupportedOperationException", RefusalsTest::turn);
        sentence("setCapacity throws IllegalArgumentException first", RefusalsTest::setCapacityByArgument);
        sentence("setCapacity throws IllegalStateException second", RefusalsTest::setCapacityByRiders);
        sentence("pass throws IllegalArgumentException", RefusalsTest::pass);
        sentence("slope throws IndexOutOfBoundsException", RefusalsTest::slope);
        sentence("calls of a cabin throw IndexOutOfBoundsException first", RefusalsTest::cabins);
        sentence("station throws NoSuchElementException second", RefusalsTest::stationBetween);
        sentence("riderAt throws NoSuchElementException second", RefusalsTest::riderAt);
        sentence("unitsUntil and unitsUntilByMoving throw IndexOutOfBoundsException", RefusalsTest::units);
        sentence("weight, destination and cabinOf throw NoSuchElementException", RefusalsTest::pickers);
        sentence("waiting and waitingAt throw IndexOutOfBoundsException first", RefusalsTest::waitingByStation);
        sentence("waitingAt throws NoSuchElementException second", RefusalsTest::waitingByPosition);
        sentence("busiestStation and pickerByWeight throw NoSuchElementException", RefusalsTest::busiestAndRank);
        sentence("meanJourney throws ArithmeticException", RefusalsTest::meanJourney);
        sentence("writeCabin and charAt throw IndexOutOfBoundsException", RefusalsTest::writeCabinAndCharAt);
        sentence("type throws IllegalStateException", RefusalsTest::type);
        sentence("errorPosition and failedCommand throw NoSuchElementException", RefusalsTest::records);
        sentence("undo and restore throw IllegalStateException", RefusalsTest::undoAndRestore);
        sentence("run changes nothing, except that it empties the program buffer and records a syntax error",
                RefusalsTest::runOfNoProgram);
        sentence("run changes nothing, except that it empties the program buffer and records a failed command",
                RefusalsTest::runOfFailingCommand);
        CHECKS.end();
    }

    /** Something is written, typed, recorded, saved and undoable; the cabins are between stations and hold riders. */
    private static OrchardRopeway busy() {
        OrchardRopeway x = busyAtStation();
        x.pass(1);
        return x;
    }

    private static OrchardRopeway busyAtStation() {
        OrchardRopeway x = withSlopes(2, 3, 2, 2, 4, 2);
        runWrongly(x, "waits");
        runWrongly(x, "wait 3;turn");
        letCome(x, 3, 1, 5);
        letCome(x, 2, 5, 1);
        letCome(x, 2, 0, 3);
        x.pass(2);
        x.save();
        x.setCapacity(5);
        x.pass(2);
        x.addPicker(111, 3, 0);
        x.removePicker(5);
        x.writeCabin(0);
        typeAll(x, "wait 2");
        return x;
    }

    private static void runWrongly(OrchardRopeway x, String text) {
        typeAll(x, text);
        Checks.outcome(x::run);
    }

    private static OrchardRopeway blocked() {
        OrchardRopeway x = withHeat(103);
        letCome(x, 2, 3, 5);
        typeAll(x, "wait 20");
        return x;
    }

    private static OrchardRopeway fullWithRiders() {
        OrchardRopeway x = withTwentyPickers();
        x.pass(4);
        return x;
    }

    private static void dueRefused(String call, Class<? extends RuntimeException> want, Made[] situations,
            Refused refused) {
        for (int i = 0; i < situations.length; i++) {
            OrchardRopeway x = situations[i].make();
            refused(call + " in situation " + i, want, () -> refused.on(x));
            dueNoTrace(call + " in situation " + i, situations[i], refused);
        }
    }

    /** A twin on which the call was not made answers the same. */
    private static void dueNoTrace(String call, Made situation, Refused refused) {
        List<Map<String, Object>> before = looks(situation);
        List<Map<String, Object>> after = looks(() -> {
            OrchardRopeway x = situation.make();
            Checks.outcome(() -> refused.on(x));
            return x;
        });
        for (int i = 0; i < before.size(); i++) {
            due("changes by " + call + ", look " + i, Portrait.difference(before.get(i), after.get(i)), "");
        }
    }

    /** Each look is one at an object of its own: now, behind the program that is typed, behind undos and restore. */
    private static List<Map<String, Object>> looks(Made made) {
        List<Map<String, Object>> looks = new ArrayList<>();
        looks.add(look(made, x -> "now"));
        looks.add(look(made, x -> x.type('0')));
        looks.add(look(made, OrchardRopeway::run));
        looks.add(look(made, OrchardRopeway::restore));
        looks.add(look(made, x -> x.pass(30)));
        looks.add(look(made, x -> x.addPicker(60, 2, 4)));
        looks.add(look(made, OrchardRopeway::undo));
        looks.add(look(made, RefusalsTest::undoAll));
        return looks;
    }

    private static Map<String, Object> look(Made made, Refused step) {
        OrchardRopeway x = made.make();
        Object answer = Checks.outcome(() -> step.on(x));
        Map<String, Object> portrait = Portrait.of(x);
        portrait.put("answer", answer);
        return portrait;
    }

    private static Object undoAll(OrchardRopeway x) {
        StringBuilder answers = new StringBuilder();
        for (int i = 0; i < 9; i++) {
            answers.append(' ').append(Checks.outcome(x::undo)).append(" at ").append(x.time());
        }
        return answers.toString();
    }

    private static void dueRefusedFor(int[] wrong, String call, Class<? extends RuntimeException> want,
            Made[] situations, Index refused) {
        for (int index : wrong) {
            dueRefused(call + " of " + index, want, situations, x -> refused.on(x, index));
        }
    }

    private static void addPickerByStations() {
        dueRefusedFor(NO_STATIONS, "from", INDEX, ANY, (x, none) -> x.addPicker(70, none, 3));
        dueRefusedFor(NO_STATIONS, "to", INDEX, ANY, (x, none) -> x.addPicker(70, 3, none));
        dueRefusedFor(NO_STATIONS, "from, with a wrong weight", INDEX, ANY, (x, none) -> x.addPicker(39, none, 3));
        dueRefusedFor(NO_STATIONS, "to, with a wrong weight", INDEX, ANY, (x, none) -> x.addPicker(121, 3, none));
        dueRefusedFor(NO_STATIONS, "from and to", INDEX, FULL, (x, none) -> x.addPicker(70, none, none));
    }

    private static void addPickerByArguments() {
        dueRefusedFor(NO_WEIGHTS, "weight", ARGUMENT, ANY, (x, none) -> x.addPicker(none, 0, 6));
        dueRefusedFor(new int[] {0, 1, 2, 3, 4, 5, 6}, "the same station", ARGUMENT, ANY,
                (x, station) -> x.addPicker(70, station, station));
        dueRefusedFor(NO_WEIGHTS, "both", ARGUMENT, FULL, (x, none) -> x.addPicker(none, 2, 2));
    }

    private static void addPickerByCount() {
        dueRefused("picker 21, the lightest", STATE, FULL, x -> x.addPicker(40, 0, 6));
        dueRefused("picker 21, the heaviest", STATE, FULL, x -> x.addPicker(120, 6, 0));
    }

    private static void removePicker() {
        dueRefusedFor(NO_NUMBERS, "picker", ELEMENT, ANY, OrchardRopeway::removePicker);
        dueRefused("the next number", ELEMENT, ANY, x -> x.removePicker(x.came()));
        dueRefused("one who went", ELEMENT, WITH_RIDERS, x -> x.removePicker(5));
        dueRefused("a rider of cabin 0", STATE, WITH_RIDERS, x -> x.removePicker(0));
        dueRefused("a rider of cabin 1", STATE, WITH_RIDERS, x -> x.removePicker(3));
    }

    private static void setSlopeBySegment() {
        dueRefusedFor(NO_SEGMENTS, "segment", INDEX, ANY, (x, none) -> x.setSlope(none, 5));
        dueRefusedFor(NO_SEGMENTS, "segment, with a wrong slope", INDEX, ANY, (x, none) -> x.setSlope(none, -1));
        dueRefusedFor(NO_SEGMENTS, "segment, with a steep slope", INDEX, ANY, (x, none) -> x.setSlope(none, 10));
    }

    private static void setSlopeBySlope() {
        dueRefusedFor(NO_SLOPES, "slope", ARGUMENT, ANY, (x, none) -> x.setSlope(0, none));
        dueRefusedFor(NO_SLOPES, "slope of the last", ARGUMENT, ANY, (x, none) -> x.setSlope(5, none));
    }

    private static void turn() {
        dueRefused("turn between stations", STATE, BETWEEN, OrchardRopeway::turn);
        dueRefused("turn at an end", UNSUPPORTED, new Made[] {TestBase::make, () -> at(24, false), FULL[0]},
                OrchardRopeway::turn);
    }

    private static void setCapacityByArgument() {
        dueRefusedFor(NO_CAPACITIES, "capacity", ARGUMENT, ANY, OrchardRopeway::setCapacity);
    }

    private static void setCapacityByRiders() {
        dueRefused("less than in cabin 0", STATE, WITH_RIDERS, x -> x.setCapacity(2));
        dueRefused("less than in both cabins", STATE, WITH_RIDERS, x -> x.setCapacity(1));
    }

    private static void pass() {
        dueRefusedFor(NO_MINUTES, "minutes", ARGUMENT, ANY, OrchardRopeway::pass);
    }

    private static void slope() {
        dueRefusedFor(NO_SEGMENTS, "segment", INDEX, ANY, OrchardRopeway::slope);
    }

    private static void cabins() {
        dueRefusedFor(NO_CABINS, "place", INDEX, ANY, OrchardRopeway::place);
        dueRefusedFor(NO_CABINS, "goesUp", INDEX, ANY, OrchardRopeway::goesUp);
        dueRefusedFor(NO_CABINS, "station", INDEX, ANY, OrchardRopeway::station);
        dueRefusedFor(NO_CABINS, "nextSegment", INDEX, ANY, OrchardRopeway::nextSegment);
        dueRefusedFor(NO_CABINS, "cabinWeight", INDEX, ANY, OrchardRopeway::cabinWeight);
        dueRefusedFor(NO_CABINS, "riders", INDEX, ANY, OrchardRopeway::riders);
        dueRefusedFor(NO_CABINS, "riderAt", INDEX, ANY, (x, none) -> x.riderAt(none, 0));
        dueRefusedFor(NO_CABINS, "riderAt, no position", INDEX, ANY, (x, none) -> x.riderAt(none, -1));
        dueRefusedFor(NO_CABINS, "unitsUntil", INDEX, ANY, (x, none) -> x.unitsUntil(none, 6));
        dueRefusedFor(NO_CABINS, "unitsUntil, no station", INDEX, ANY, (x, none) -> x.unitsUntil(none, 7));
        dueRefusedFor(NO_CABINS, "unitsUntilByMoving", INDEX, ANY, (x, none) -> x.unitsUntilByMoving(none, 6));
        dueRefusedFor(NO_CABINS, "writeCabin", INDEX, ANY, OrchardRopeway::writeCabin);
    }

    private static void stationBetween() {
        dueRefusedFor(new int[] {0, 1}, "station", ELEMENT, BETWEEN, OrchardRopeway::station);
    }

    private static void riderAt() {
        dueRefusedFor(NO_NUMBERS, "riderAt of cabin 0", ELEMENT, ANY, (x, none) -> x.riderAt(0, none));
        dueRefusedFor(NO_NUMBERS, "riderAt of cabin 1", ELEMENT, ANY, (x, none) -> x.riderAt(1, none));
        dueRefused("behind the last of cabin 0", ELEMENT, ANY, x -> x.riderAt(0, x.riders(0)));
        dueRefused("behind the last of cabin 1", ELEMENT, ANY, x -> x.riderAt(1, x.riders(1)));
    }

    private static void units() {
        dueRefusedFor(NO_STATIONS, "unitsUntil of cabin 0", INDEX, ANY, (x, none) -> x.unitsUntil(0, none));
        dueRefusedFor(NO_STATIONS, "unitsUntil of cabin 1", INDEX, ANY, (x, none) -> x.unitsUntil(1, none));
        dueRefusedFor(NO_STATIONS, "unitsUntilByMoving", INDEX, ANY, (x, none) -> x.unitsUntilByMoving(1, none));
    }

    private static void pickers() {
        dueRefusedFor(NO_NUMBERS, "weight", ELEMENT, ANY, OrchardRopeway::weight);
        dueRefusedFor(NO_NUMBERS, "destination", ELEMENT, ANY, OrchardRopeway::destination);
        dueRefusedFor(NO_NUMBERS, "cabinOf", ELEMENT, ANY, OrchardRopeway::cabinOf);
        dueRefused("weight of the next", ELEMENT, ANY, x -> x.weight(x.came()));
        dueRefused("destination of the next", ELEMENT, ANY, x -> x.destination(x.came()));
        dueRefused("cabinOf the next", ELEMENT, ANY, x -> x.cabinOf(x.came()));
        dueRefused("weight of one who went", ELEMENT, WITH_RIDERS, x -> x.weight(5));
        dueRefused("cabinOf one who waits", ELEMENT, WITH_RIDERS, x -> x.cabinOf(6));
    }

    private static void waitingByStation() {
        dueRefusedFor(NO_STATIONS, "waiting", INDEX, ANY, OrchardRopeway::waiting);
        dueRefusedFor(NO_STATIONS, "waitingAt", INDEX, ANY, (x, none) -> x.waitingAt(none, 0));
        dueRefusedFor(NO_STATIONS, "waitingAt, no position", INDEX, ANY, (x, none) -> x.waitingAt(none, -1));
    }

    private static void waitingByPosition() {
        dueRefusedFor(NO_NUMBERS, "waitingAt of station 0", ELEMENT, ANY, (x, none) -> x.waitingAt(0, none));
        dueRefusedFor(new int[] {0, 1, 2, 3, 4, 5, 6}, "behind the last", ELEMENT, ANY,
                (x, station) -> x.waitingAt(station, x.waiting(station)));
    }

    private static void busiestAndRank() {
        dueRefused("busiestStation of none", ELEMENT, new Made[] {TestBase::make, ANY[5]},
                OrchardRopeway::busiestStation);
        dueRefusedFor(NO_NUMBERS, "rank", ELEMENT, ANY, OrchardRopeway::pickerByWeight);
        dueRefused("behind the last rank", ELEMENT, ANY, x -> x.pickerByWeight(x.pickers()));
    }

    private static void meanJourney() {
        dueRefused("nobody has arrived", ARITHMETIC, ANY, OrchardRopeway::meanJourney);
    }

    private static void writeCabinAndCharAt() {
        dueRefusedFor(NO_CABINS, "writeCabin", INDEX, ANY, OrchardRopeway::writeCabin);
        dueRefusedFor(NO_NUMBERS, "charAt", INDEX, ANY, OrchardRopeway::charAt);
        dueRefused("charAt of an empty line", INDEX, new Made[] {TestBase::make}, x -> x.charAt(0));
        dueRefused("charAt behind the line", INDEX, WITH_RIDERS, x -> x.charAt("0@4+ 0>5 1>5 2>5".length()));
    }

    private static OrchardRopeway withFullBuffer() {
        OrchardRopeway x = withRiders();
        typeAll(x, "capacity 1;wait;wait;wait;wait;wait;wait;wait;wait;wait;wait");
        return x;
    }

    private static void type() {
        dueRefused("type", STATE, new Made[] {RefusalsTest::withFullBuffer}, x -> x.type(';'));
        dueRefused("type of character 0", STATE, new Made[] {RefusalsTest::withFullBuffer}, x -> x.type((char) 0));
    }

    private static void records() {
        Made[] unrecorded = {TestBase::make, TestBase::withTwentyPickers, RefusalsTest::blocked};
        dueRefused("errorPosition", ELEMENT, unrecorded, OrchardRopeway::errorPosition);
        dueRefused("failedCommand", ELEMENT, unrecorded, OrchardRopeway::failedCommand);
    }

    private static OrchardRopeway afterRestore() {
        OrchardRopeway x = busy();
        x.restore();
        return x;
    }

    private static void undoAndRestore() {
        dueRefused("undo", STATE, new Made[] {TestBase::make, RefusalsTest::afterRestore}, OrchardRopeway::undo);
        dueRefused("restore", STATE, new Made[] {TestBase::make, FULL[0], FULL[1], RefusalsTest::blocked},
                OrchardRopeway::restore);
    }

    /** Beside the exception: what is recorded, and that everything else is as with an empty buffer. */
    private static void dueWrongText(Made situation, String text, Class<? extends RuntimeException> want,
            String recorded, int value) {
        Made emptied = () -> {
            OrchardRopeway x = situation.make();
            Checks.outcome(x::run);
            return x;
        };
        OrchardRopeway x = emptied.make();
        typeAll(x, text);
        refused("run of " + text, want, x::run);
        due("recorded by " + text, recorded.equals("errorPosition") ? x.errorPosition() : x.failedCommand(), value);
        List<Map<String, Object>> before = looks(emptied);
        List<Map<String, Object>> after = looks(() -> {
            OrchardRopeway y = emptied.make();
            typeAll(y, text);
            Checks.outcome(y::run);
            return y;
        });
        for (int i = 0; i < before.size(); i++) {
            before.get(i).remove(recorded);
            after.get(i).remove(recorded);
            due("changes by " + text + ", look " + i, Portrait.difference(before.get(i), after.get(i)), "");
        }
    }

    private static void runOfNoProgram() {
        for (Made situation : ANY) {
            dueWrongText(situation, "", ARGUMENT, "errorPosition", 0);
            dueWrongText(situation, "wait 9;", ARGUMENT, "errorPosition", 7);
            dueWrongText(situation, "capacity 0;wait 2400", ARGUMENT, "errorPosition", 19);
        }
    }

    private static void runOfFailingCommand() {
        for (Made situation : ANY) {
            dueWrongText(situation, "wait 0;wait 9", UNSUPPORTED, "failedCommand", 0);
            dueWrongText(situation, "slope 1=9;wait 240;slope 5=0;remove 999", UNSUPPORTED, "failedCommand", 3);
            dueWrongText(situation, "wait 240;wait 240;wait 240;wait 240;slope 6=0", UNSUPPORTED, "failedCommand", 4);
        }
    }
}
