/** For every promise of the document: ordinary inputs, the edges that it names, and wrong inputs. */
public final class PromisesTest extends TestBase {
    private PromisesTest() {
    }

    public static void main(String[] args) {
        promise01();
        promise02();
        promise03();
        promise04();
        promise05();
        promise06();
        promise07();
        promise07Brake();
        promise07Stops();
        promise08();
        promise09And10();
        promise11();
        promise12And13();
        promise14And15();
        promise16To19();
        promise20To22();
        promise23And24();
        promise25And26();
        promise27To29();
        promise30And31();
        promise32And33();
        promise34();
        promise35To37();
        promise38();
        promise39();
        promise40();
        promise41();
        promise42();
        promise43();
        promise44();
        promise45();
        promise46();
        promise47Grammar();
        promise47Commands();
        promise47Failures();
        promise48();
        promise49();
        promise50();
        promise51And52();
        CHECKS.end();
    }

    private static void promise01() {
        OrchardRopeway x = make();
        due("pickers", x.pickers(), 0);
        due("time", x.time(), 0);
        due("came", x.came(), 0);
        due("heat", x.heat(), 0);
        due("isBlocked", x.isBlocked(), false);
        due("capacity", x.capacity(), 4);
        due("energy", x.energy(), 0L);
        due("meetings", x.meetings(), 0);
        due("arrived", x.arrived(), 0);
        due("cabin 0", cabinLine(x, 0), "0@0+");
        due("cabin 1", cabinLine(x, 1), "1@24-");
        due("stations", stationsLine(x), "0/2/0/2/0/2/0/2/0/2/0/2/0");
        refused("undo of a new object", STATE, x::undo);
        refused("restore of a new object", STATE, x::restore);
    }

    private static void promise02() {
        OrchardRopeway x = make();
        due("addPicker(40, 0, 6)", x.addPicker(40, 0, 6), 0);
        due("addPicker(120, 6, 0)", x.addPicker(120, 6, 0), 1);
        refused("weight 39", ARGUMENT, () -> x.addPicker(39, 0, 6));
        refused("weight 121", ARGUMENT, () -> x.addPicker(121, 0, 6));
        refused("the same station", ARGUMENT, () -> x.addPicker(70, 3, 3));
        for (int wrong : NO_STATIONS) {
            refused("from " + wrong, INDEX, () -> x.addPicker(70, wrong, 0));
            refused("to " + wrong, INDEX, () -> x.addPicker(70, 0, wrong));
            refused("both " + wrong, INDEX, () -> x.addPicker(0, wrong, wrong));
            refused("weight " + wrong, ARGUMENT, () -> x.addPicker(wrong, 0, 1));
        }
        due("a refused picker takes no number", x.addPicker(70, 5, 1), 2);
        due("pickers", x.pickers(), 3);
        due("a picker waits though a cabin is there", x.riders(0) + x.riders(1), 0);
        due("waiting(0)", x.waiting(0), 1);
        x.removePicker(2);
        due("a number is not used again", x.addPicker(70, 5, 1), 3);

        OrchardRopeway full = withTwentyPickers();
        refused("picker 21", STATE, () -> full.addPicker(70, 0, 1));
        refused("picker 21 of a wrong weight", ARGUMENT, () -> full.addPicker(39, 0, 1));
        refused("picker 21 from a wrong station", INDEX, () -> full.addPicker(70, 7, 1));
        full.removePicker(19);
        due("room again", full.addPicker(70, 0, 1), 20);
        dueAnswersOfTwenty();
    }

    /** With every row in use, a look at one row too many would leave the arrays. */
    private static void dueAnswersOfTwenty() {
        OrchardRopeway x = withTwentyPickers();
        due("waiting(0)", x.waiting(0), 3);
        due("waitingAt(5, 2)", x.waitingAt(5, 2), 19);
        refused("waitingAt(5, 3)", ELEMENT, () -> x.waitingAt(5, 3));
        refused("riderAt(0, 0)", ELEMENT, () -> x.riderAt(0, 0));
        due("the lightest", x.pickerByWeight(19), 0);
        refused("rank 20", ELEMENT, () -> x.pickerByWeight(20));
        due("isPresent(20)", x.isPresent(20), false);
        due("nobody boards between stations", x.pass(3), 0);
        due("nobody arrives at once", x.pass(1), 0);
        due("three board at station 1, nobody wants down at station 5", stationsLine(x), "3/2/0/2/3/2/3/2/3/2/3/2/2");
        due("isConsistent", x.isConsistent(), true);
    }

    private static void promise03() {
        OrchardRopeway x = make();
        x.addPicker(70, 1, 3);
        x.addPicker(70, 1, 4);
        x.addPicker(70, 6, 0);
        due("removePicker(1)", x.removePicker(1), 2);
        due("isPresent(1)", x.isPresent(1), false);
        due("isPresent(0)", x.isPresent(0), true);
        due("isPresent(2)", x.isPresent(2), true);
        due("weight of the next row", x.destination(2), 0);
        refused("removePicker(1) again", ELEMENT, () -> x.removePicker(1));
        refused("removePicker(3)", ELEMENT, () -> x.removePicker(3));
        for (int none : NO_NUMBERS) {
            refused("removePicker " + none, ELEMENT, () -> x.removePicker(none));
        }
        x.pass(4);
        refused("removePicker of a rider", STATE, () -> x.removePicker(0));
        due("the rider stays", x.cabinOf(0), 0);
        x.pass(8);
        refused("removePicker of one who arrived", ELEMENT, () -> x.removePicker(0));
        due("removePicker(2)", x.removePicker(2), 0);
    }

    private static void promise04() {
        OrchardRopeway x = make();
        due("setSlope(0, 9)", x.setSlope(0, 9), 2);
        due("setSlope(0, 0)", x.setSlope(0, 0), 9);
        due("setSlope(5, 3)", x.setSlope(5, 3), 2);
        due("slope(0)", x.slope(0), 0);
        due("slope(5)", x.slope(5), 3);
        due("slope(1)", x.slope(1), 2);
        for (int wrong : NO_SEGMENTS) {
            refused("segment " + wrong, INDEX, () -> x.setSlope(wrong, 2));
            refused("segment first " + wrong, INDEX, () -> x.setSlope(wrong, 10));
        }
        for (int wrong : NO_SLOPES) {
            refused("slope " + wrong, ARGUMENT, () -> x.setSlope(5, wrong));
        }
        due("slope(5) after refusals", x.slope(5), 3);
    }

    private static void promise05() {
        OrchardRopeway x = make();
        refused("turn at place 0", UNSUPPORTED, x::turn);
        x.pass(3);
        refused("turn at place 3", STATE, x::turn);
        x.pass(1);
        x.addPicker(70, 1, 0);
        x.addPicker(70, 5, 6);
        due("turn at place 4", x.turn(), false);
        due("goesUp(0)", x.goesUp(0), false);
        due("goesUp(1)", x.goesUp(1), true);
        due("nobody boards by that", x.riders(0) + x.riders(1), 0);
        due("turn back", x.turn(), true);
        x.pass(20);
        due("place(0)", x.place(0), 24);
        refused("turn at place 24", UNSUPPORTED, x::turn);

        OrchardRopeway blocked = hot();
        blocked.addPicker(70, 0, 3);
        blocked.pass(12);
        due("isBlocked", blocked.isBlocked(), true);
        due("turn while blocked", blocked.turn(), false);
        due("isBlocked after turn", blocked.isBlocked(), true);

        OrchardRopeway rider = make();
        rider.addPicker(70, 1, 2);
        rider.pass(4);
        due("turn with a rider", rider.turn(), false);
        due("nobody leaves by that", rider.riders(0), 1);
    }

    private static void promise06() {
        OrchardRopeway x = make();
        due("setCapacity(6)", x.setCapacity(6), 4);
        due("setCapacity(1)", x.setCapacity(1), 6);
        due("setCapacity(3)", x.setCapacity(3), 1);
        for (int wrong : NO_CAPACITIES) {
            refused("capacity " + wrong, ARGUMENT, () -> x.setCapacity(wrong));
        }
        for (int cabin = 0; cabin < 2; cabin++) {
            OrchardRopeway full = make();
            int from = cabin == 0 ? 1 : 5;
            full.addPicker(70, from, 3);
            full.addPicker(70, from, 3);
            full.pass(4);
            due("riders", full.riders(cabin), 2);
            refused("capacity 1 with 2 riders in " + cabin, STATE, () -> full.setCapacity(1));
            refused("capacity 0 with 2 riders in " + cabin, ARGUMENT, () -> full.setCapacity(0));
            due("capacity 2 with 2 riders in " + cabin, full.setCapacity(2), 4);
            due("capacity()", full.capacity(), 2);
        }
    }

    private static void promise07() {
        OrchardRopeway x = make();
        for (int wrong : NO_MINUTES) {
            refused("pass " + wrong, ARGUMENT, () -> x.pass(wrong));
        }
        due("time after refusals", x.time(), 0);
        due("pass(1)", x.pass(1), 0);
        due("place(0)", x.place(0), 1);
        due("pass(240)", x.pass(240), 0);
        due("time", x.time(), 241);
        due("place(0) after five rounds and a minute", x.place(0), 1);
        due("goesUp(0)", x.goesUp(0), true);

        OrchardRopeway y = make();
        y.addPicker(70, 1, 2);
        y.addPicker(70, 1, 3);
        y.addPicker(70, 5, 3);
        due("pass(7)", y.pass(7), 0);
        due("pass to place 8", y.pass(1), 1);
        due("both cabins arrive at place 12", y.pass(4), 2);
        due("nobody arrives twice", y.pass(240), 0);
        due("pickers", y.pickers(), 0);
    }

    private static void promise07Brake() {
        OrchardRopeway x = hot();
        x.pass(11);
        due("heat 99", x.heat(), 99);
        due("99 does not block", x.isBlocked(), false);
        x.addPicker(80, 3, 6);
        x.addPicker(80, 3, 0);
        x.pass(1);
        due("heat 108", x.heat(), 108);
        due("108 blocks", x.isBlocked(), true);
        due("cabins stop in the minute that blocks", x.riders(0) + x.riders(1), 2);
        x.addPicker(80, 3, 5);
        x.pass(11);
        due("heat 53", x.heat(), 53);
        due("53 stays blocked", x.isBlocked(), true);
        due("the place while blocked", x.place(0), 12);
        due("nobody boards while blocked", x.riders(0), 1);
        due("time while blocked", x.time(), 23);
        due("energy while blocked", x.energy(), 0L);
        x.pass(1);
        due("heat 48", x.heat(), 48);
        due("48 is free", x.isBlocked(), false);
        due("no move in the minute that frees", x.place(0), 12);
        x.pass(1);
        due("moves again", x.place(0), 13);
        due("the motor pulls 280 at slope 9", x.energy(), 25L);
        due("heat 47", x.heat(), 47);

        OrchardRopeway edge = withSlopes(0, 0, 0, 7, 9, 9);
        edge.pass(12);
        due("heat 100", edge.heat(), 100);
        due("100 blocks", edge.isBlocked(), true);
        edge.pass(9);
        due("heat 55", edge.heat(), 55);
        due("55 stays blocked", edge.isBlocked(), true);
        edge.pass(1);
        due("heat 50", edge.heat(), 50);
        due("50 is free", edge.isBlocked(), false);

        OrchardRopeway odd = withSlopes(0, 0, 0, 7, 9, 9);
        odd.pass(11);
        odd.setSlope(3, 8);
        odd.pass(11);
        due("heat 51", odd.heat(), 51);
        due("51 stays blocked", odd.isBlocked(), true);
        due("one minute more", odd.blockedMinutes(), 1);
        odd.pass(1);
        due("heat 46", odd.heat(), 46);
        due("46 is free", odd.isBlocked(), false);
    }

    private static void promise07Stops() {
        OrchardRopeway x = make();
        x.setCapacity(2);
        x.addPicker(50, 1, 0);
        x.addPicker(51, 1, 2);
        x.addPicker(52, 1, 3);
        x.addPicker(53, 1, 4);
        x.addPicker(54, 2, 5);
        x.pass(4);
        due("only upwards, by number, up to the capacity", cabinLine(x, 0), "0@4+ 1>2 2>3");
        x.pass(4);
        due("leaving comes before boarding", cabinLine(x, 0), "0@8+ 2>3 4>5");
        x.pass(8);
        due("cabin 1 has passed station 3", cabinLine(x, 0), "0@16+ 4>5");
        x.pass(4);
        due("cabin 1 boards downwards at station 1", cabinLine(x, 1), "1@4- 0>0");

        OrchardRopeway ends = make();
        ends.addPicker(60, 0, 6);
        ends.addPicker(60, 6, 0);
        ends.pass(24);
        due("directions change before boarding, cabin 0", cabinLine(ends, 0), "0@24- 1>0");
        due("directions change before boarding, cabin 1", cabinLine(ends, 1), "1@0+ 0>6");
        due("both arrive", ends.pass(24), 2);
        due("cabin 0 goes up again", cabinLine(ends, 0), "0@0+");

        OrchardRopeway turned = make();
        turned.addPicker(60, 2, 4);
        turned.pass(8);
        turned.turn();
        turned.pass(8);
        due("a rider stays in a turned cabin", cabinLine(turned, 0), "0@0+ 0>4");
        due("and arrives later", turned.pass(16), 1);
    }

    private static void promise08() {
        OrchardRopeway x = make();
        x.pass(5);
        due("time 5", x.time(), 5);
        x.addPicker(70, 0, 1);
        x.setSlope(0, 1);
        due("only minutes change the time", x.time(), 5);
        x.pass(240);
        due("time 245", x.time(), 245);
    }

    private static void promise09And10() {
        OrchardRopeway x = withSlopes(1, 2, 3, 4, 5, 6);
        for (int segment = 0; segment < 6; segment++) {
            due("slope " + segment, x.slope(segment), segment + 1);
        }
        for (int wrong : NO_SEGMENTS) {
            refused("slope " + wrong, INDEX, () -> x.slope(wrong));
        }
        due("capacity", x.capacity(), 4);
        x.setCapacity(5);
        due("capacity 5", x.capacity(), 5);
    }

    private static void promise11() {
        OrchardRopeway x = withSlopes(1, 2, 3, 4, 5, 6);
        due("200*1 - 200*6", x.imbalance(), -1000);
        x.addPicker(70, 1, 3);
        x.addPicker(90, 5, 4);
        x.pass(4);
        due("270*2 - 290*5", x.imbalance(), -910);
        x.turn();
        due("going down: 290*6 - 270*1", x.imbalance(), 1470);
        x.turn();
        x.pass(1);
        due("inside a segment", x.imbalance(), -910);
        x.setSlope(1, 9);
        due("a new slope counts at once", x.imbalance(), 980);
        x.pass(20);
        due("place(0)", x.place(0), 23);
        due("going down: 200*1 - 200*6", x.imbalance(), -1000);
    }

    private static void promise12And13() {
        OrchardRopeway x = withSlopes(2, 2, 2, 2, 2, 5);
        x.pass(3);
        due("heat 9", x.heat(), 9);
        x.setSlope(5, 2);
        x.pass(1);
        due("imbalance 0 cools by 1", x.heat(), 8);
        x.pass(20);
        due("not below 0", x.heat(), 0);
        due("isBlocked", x.isBlocked(), false);

        OrchardRopeway y = withSlopes(2, 2, 2, 2, 1, 2);
        y.addPicker(119, 5, 0);
        y.pass(4);
        y.setSlope(1, 0);
        due("imbalance", y.imbalance(), -319);
        y.pass(1);
        due("319 / 200 is rounded down", y.heat(), 1);
        y.setSlope(1, 1);
        due("imbalance -119", y.imbalance(), -119);
        y.pass(1);
        due("119 / 200 is rounded down, and does not cool", y.heat(), 1);
    }

    private static void promise14And15() {
        OrchardRopeway x = hot();
        due("not blocked", x.blockedMinutes(), 0);
        due("not blocked, by passing", x.blockedMinutesByPassing(), 0);
        x.pass(11);
        due("hot but not blocked", x.blockedMinutes(), 0);
        due("hot but not blocked, by passing", x.blockedMinutesByPassing(), 0);
        x.pass(1);
        for (int minutes = 12; minutes > 0; minutes--) {
            due("blockedMinutes", x.blockedMinutes(), minutes);
            due("blockedMinutesByPassing", x.blockedMinutesByPassing(), minutes);
            x.pass(1);
        }
        due("free again", x.blockedMinutes(), 0);
        due("free again, by passing", x.blockedMinutesByPassing(), 0);
        due("the copy alone has passed", x.time(), 24);

        OrchardRopeway edge = withSlopes(0, 0, 0, 7, 9, 9);
        edge.pass(12);
        due("from 100", edge.blockedMinutes(), 10);
        due("from 100, by passing", edge.blockedMinutesByPassing(), 10);
        due("heat stays", edge.heat(), 100);
    }

    private static void promise16To19() {
        OrchardRopeway x = make();
        due("station(0)", x.station(0), 0);
        due("station(1)", x.station(1), 6);
        due("nextSegment(0)", x.nextSegment(0), 0);
        due("nextSegment(1)", x.nextSegment(1), 5);
        x.pass(3);
        due("place(0)", x.place(0), 3);
        due("place(1)", x.place(1), 21);
        due("nextSegment(0) at 3", x.nextSegment(0), 0);
        due("nextSegment(1) at 21", x.nextSegment(1), 5);
        refused("station between stations", ELEMENT, () -> x.station(0));
        refused("station between stations", ELEMENT, () -> x.station(1));
        refused("no cabin comes first", INDEX, () -> x.station(2));
        x.pass(1);
        due("station(0) at 4", x.station(0), 1);
        due("station(1) at 20", x.station(1), 5);
        due("nextSegment(0) at 4 upwards", x.nextSegment(0), 1);
        due("nextSegment(1) at 20 downwards", x.nextSegment(1), 4);
        x.turn();
        due("nextSegment(0) at 4 downwards", x.nextSegment(0), 0);
        due("nextSegment(1) at 20 upwards", x.nextSegment(1), 5);
        x.turn();
        due("goesUp(0)", x.goesUp(0), true);
        due("goesUp(1)", x.goesUp(1), false);
        x.pass(20);
        due("goesUp(0) at 24", x.goesUp(0), false);
        due("goesUp(1) at 0", x.goesUp(1), true);
        due("nextSegment(0) at 24", x.nextSegment(0), 5);
        due("nextSegment(1) at 0", x.nextSegment(1), 0);
        for (int wrong : NO_CABINS) {
            refused("place " + wrong, INDEX, () -> x.place(wrong));
            refused("goesUp " + wrong, INDEX, () -> x.goesUp(wrong));
            refused("station " + wrong, INDEX, () -> x.station(wrong));
            refused("nextSegment " + wrong, INDEX, () -> x.nextSegment(wrong));
        }
    }

    private static void promise20To22() {
        OrchardRopeway x = make();
        x.addPicker(41, 2, 6);
        x.addPicker(50, 5, 0);
        x.addPicker(73, 1, 6);
        due("empty", x.cabinWeight(0), 200);
        x.pass(8);
        due("cabinWeight(0)", x.cabinWeight(0), 314);
        due("cabinWeight(1)", x.cabinWeight(1), 250);
        due("riders(0)", x.riders(0), 2);
        due("riders(1)", x.riders(1), 1);
        due("the first to board, not the first to come", x.riderAt(0, 0), 2);
        due("the second to board", x.riderAt(0, 1), 0);
        due("riderAt(1, 0)", x.riderAt(1, 0), 1);
        refused("riderAt(0, 2)", ELEMENT, () -> x.riderAt(0, 2));
        refused("riderAt(1, 1)", ELEMENT, () -> x.riderAt(1, 1));
        for (int none : NO_NUMBERS) {
            refused("riderAt(0, none)", ELEMENT, () -> x.riderAt(0, none));
        }
        for (int wrong : NO_CABINS) {
            refused("cabinWeight " + wrong, INDEX, () -> x.cabinWeight(wrong));
            refused("riders " + wrong, INDEX, () -> x.riders(wrong));
            refused("riderAt " + wrong, INDEX, () -> x.riderAt(wrong, 0));
            refused("riderAt, no position either " + wrong, INDEX, () -> x.riderAt(wrong, -1));
        }
        x.pass(16);
        due("cabinWeight(0) after arrivals", x.cabinWeight(0), 200);
        due("riders(0) after arrivals", x.riders(0), 0);
        dueOrderOfBoarding();
    }

    private static void dueOrderOfBoarding() {
        OrchardRopeway x = make();
        x.addPicker(70, 6, 5);
        x.addPicker(70, 3, 6);
        x.addPicker(70, 2, 6);
        x.addPicker(70, 1, 5);
        x.addPicker(70, 1, 6);
        x.pass(4);
        due("of one station by number", cabinLine(x, 0), "0@4+ 3>5 4>6");
        x.pass(4);
        x.save();
        x.removePicker(0);
        x.pass(4);
        due("when the rows move up", cabinLine(x, 0), "0@12+ 3>5 4>6 2>6 1>6");
        x.undo();
        x.undo();
        due("after undo", cabinLine(x, 0), "0@8+ 3>5 4>6 2>6");
        x.pass(4);
        due("boarding goes on after undo", cabinLine(x, 0), "0@12+ 3>5 4>6 2>6 1>6");
        x.restore();
        due("after restore", cabinLine(x, 0), "0@8+ 3>5 4>6 2>6");
        x.pass(12);
        due("when others have left", cabinLine(x, 0), "0@20+ 4>6 2>6 1>6");
        due("riderAt(0, 2)", x.riderAt(0, 2), 1);

        OrchardRopeway y = make();
        y.addPicker(70, 1, 6);
        y.addPicker(70, 2, 6);
        y.pass(8);
        due("the first picker boards first", y.riderAt(0, 0), 0);
        due("the second picker boards second", y.riderAt(0, 1), 1);
    }

    private static void promise23And24() {
        OrchardRopeway x = make();
        x.pass(6);
        int[] fromSixUp = {42, 38, 2, 6, 10, 14, 18};
        int[] fromEighteenDown = {18, 14, 10, 6, 2, 38, 42};
        dueUnits(x, 0, fromSixUp);
        dueUnits(x, 1, fromEighteenDown);
        x.pass(2);
        dueUnits(x, 0, new int[] {40, 36, 0, 4, 8, 12, 16});
        x.turn();
        dueUnits(x, 0, new int[] {8, 4, 0, 20, 24, 28, 32});
        dueUnits(x, 1, new int[] {32, 28, 24, 20, 0, 4, 8});
        for (int wrong : NO_CABINS) {
            refused("unitsUntil cabin " + wrong, INDEX, () -> x.unitsUntil(wrong, 0));
            refused("unitsUntilByMoving cabin " + wrong, INDEX, () -> x.unitsUntilByMoving(wrong, 0));
        }
        for (int wrong : NO_STATIONS) {
            refused("unitsUntil station " + wrong, INDEX, () -> x.unitsUntil(0, wrong));
            refused("unitsUntilByMoving station " + wrong, INDEX, () -> x.unitsUntilByMoving(1, wrong));
        }
        OrchardRopeway y = make();
        y.pass(1);
        dueUnits(y, 0, new int[] {47, 3, 7, 11, 15, 19, 23});
        dueUnits(y, 1, new int[] {23, 19, 15, 11, 7, 3, 47});
        due("nothing has moved", y.place(0), 1);
    }

    private static void dueUnits(OrchardRopeway x, int cabin, int[] units) {
        for (int station = 0; station < 7; station++) {
            String to = cabin + " to " + station;
            due("unitsUntil " + to, x.unitsUntil(cabin, station), units[station]);
            due("unitsUntilByMoving " + to, x.unitsUntilByMoving(cabin, station), units[station]);
        }
    }

    private static void promise25And26() {
        OrchardRopeway x = make();
        x.addPicker(70, 1, 2);
        x.addPicker(70, 6, 5);
        x.addPicker(70, 3, 0);
        due("pickers", x.pickers(), 3);
        due("isPresent(2)", x.isPresent(2), true);
        due("isPresent(3)", x.isPresent(3), false);
        for (int none : NO_NUMBERS) {
            due("isPresent none", x.isPresent(none), false);
        }
        x.removePicker(2);
        due("pickers after one went", x.pickers(), 2);
        due("isPresent of one who went", x.isPresent(2), false);
        x.pass(4);
        due("a rider is present", x.isPresent(0), true);
        due("pickers with a rider", x.pickers(), 2);
        x.pass(4);
        due("one who arrived is not present", x.isPresent(0), false);
        due("pickers after an arrival", x.pickers(), 1);
    }

    private static void promise27To29() {
        OrchardRopeway x = make();
        x.addPicker(61, 1, 2);
        x.addPicker(62, 5, 4);
        x.addPicker(63, 3, 0);
        due("weight(0)", x.weight(0), 61);
        due("weight(2)", x.weight(2), 63);
        due("destination(0)", x.destination(0), 2);
        due("destination(2)", x.destination(2), 0);
        refused("cabinOf one who waits", ELEMENT, () -> x.cabinOf(0));
        x.pass(4);
        due("cabinOf(0)", x.cabinOf(0), 0);
        due("cabinOf(1)", x.cabinOf(1), 1);
        due("weight of a rider", x.weight(1), 62);
        refused("cabinOf(2)", ELEMENT, () -> x.cabinOf(2));
        x.pass(4);
        for (int none : new int[] {0, 1, 3, -1, Integer.MIN_VALUE, Integer.MAX_VALUE}) {
            refused("weight " + none, ELEMENT, () -> x.weight(none));
            refused("destination " + none, ELEMENT, () -> x.destination(none));
            refused("cabinOf " + none, ELEMENT, () -> x.cabinOf(none));
        }
        due("weight(2) after others left", x.weight(2), 63);
    }

    private static void promise30And31() {
        OrchardRopeway x = make();
        x.addPicker(70, 1, 0);
        x.addPicker(70, 6, 1);
        x.addPicker(70, 1, 3);
        x.addPicker(70, 1, 0);
        due("waiting(1)", x.waiting(1), 3);
        due("waiting(0): a destination is not a wait", x.waiting(0), 0);
        due("waiting(6)", x.waiting(6), 1);
        due("waitingAt(1, 0)", x.waitingAt(1, 0), 0);
        due("waitingAt(1, 1)", x.waitingAt(1, 1), 2);
        due("waitingAt(1, 2)", x.waitingAt(1, 2), 3);
        refused("waitingAt(1, 3)", ELEMENT, () -> x.waitingAt(1, 3));
        refused("waitingAt(0, 0)", ELEMENT, () -> x.waitingAt(0, 0));
        for (int none : NO_NUMBERS) {
            refused("waitingAt none", ELEMENT, () -> x.waitingAt(1, none));
        }
        for (int wrong : NO_STATIONS) {
            refused("waiting " + wrong, INDEX, () -> x.waiting(wrong));
            refused("waitingAt " + wrong, INDEX, () -> x.waitingAt(wrong, 0));
            refused("waitingAt, no position either " + wrong, INDEX, () -> x.waitingAt(wrong, -1));
        }
        x.pass(4);
        due("a rider does not wait", x.waiting(1), 2);
        due("waitingAt(1, 1) after boarding", x.waitingAt(1, 1), 3);
    }

    private static void promise32And33() {
        OrchardRopeway x = make();
        due("waitingStations of none", x.waitingStations(), 0);
        refused("busiestStation of none", ELEMENT, x::busiestStation);
        x.addPicker(70, 6, 0);
        due("busiestStation of one", x.busiestStation(), 6);
        x.addPicker(70, 4, 0);
        due("the smallest of several", x.busiestStation(), 4);
        due("waitingStations", x.waitingStations(), 2);
        x.addPicker(70, 6, 1);
        due("the most", x.busiestStation(), 6);
        due("waitingStations counts stations", x.waitingStations(), 2);
        x.addPicker(70, 0, 1);
        due("station 0 counts", x.waitingStations(), 3);
        x.removePicker(0);
        x.removePicker(2);
        x.removePicker(1);
        due("station 0 alone", x.busiestStation(), 0);
        x.pass(24);
        due("a rider does not wait", x.waitingStations(), 0);
        refused("only a rider", ELEMENT, x::busiestStation);
    }

    private static void promise34() {
        OrchardRopeway x = make();
        refused("nobody", ELEMENT, () -> x.pickerByWeight(0));
        int[] weights = {70, 120, 40, 70, 120, 99};
        for (int i = 0; i < weights.length; i++) {
            x.addPicker(weights[i], i, (i + 1) % 7);
        }
        int[] sorted = {1, 4, 5, 0, 3, 2};
        for (int rank = 0; rank < sorted.length; rank++) {
            due("rank " + rank, x.pickerByWeight(rank), sorted[rank]);
        }
        refused("rank 6", ELEMENT, () -> x.pickerByWeight(6));
        for (int none : NO_NUMBERS) {
            refused("rank none", ELEMENT, () -> x.pickerByWeight(none));
        }
        x.pass(4);
        due("riders count too", x.pickerByWeight(0), 1);
        x.removePicker(4);
        due("rank 1 after one went", x.pickerByWeight(1), 5);
    }

    private static void promise35To37() {
        OrchardRopeway x = make();
        x.addPicker(70, 1, 2);
        x.addPicker(70, 1, 3);
        x.addPicker(70, 6, 0);
        x.addPicker(70, 4, 5);
        x.removePicker(3);
        x.pass(8);
        due("one waits, one rides, one arrived, one went", x.came(), 4);
        due("by parts", x.cameByParts(), 4);
        due("arrived", x.arrived(), 1);
        due("pickers", x.pickers(), 2);
        x.pass(4);
        due("arrived 2", x.arrived(), 2);
        due("came", x.came(), 4);
        due("by parts later", x.cameByParts(), 4);
        x.undo();
        due("arrived after undo", x.arrived(), 1);
        x.undo();
        x.undo();
        due("by parts after undo", x.cameByParts(), 4);
        x.undo();
        due("came after undo", x.came(), 3);
        due("the number is free again after undo", x.addPicker(70, 0, 1), 3);
    }

    private static void promise38() {
        OrchardRopeway x = make();
        x.pass(11);
        due("before the middle", x.meetings(), 0);
        x.pass(1);
        due("in the middle", x.meetings(), 1);
        x.pass(23);
        due("before the middle again", x.meetings(), 1);
        x.pass(1);
        due("in the middle again", x.meetings(), 2);
        x.turn();
        due("a turn is no meeting", x.meetings(), 2);
        x.pass(24);
        due("back from the top", x.meetings(), 3);

        OrchardRopeway blocked = hot();
        blocked.pass(20);
        due("staying in the middle is one meeting", blocked.meetings(), 1);
        OrchardRopeway round = make();
        due("pass(240)", round.pass(240), 0);
        due("ten meetings", round.meetings(), 10);
    }

    private static void promise39() {
        OrchardRopeway x = withSlopes(9, 2, 2, 2, 2, 0);
        x.pass(3);
        due("1800 / 100 three times", x.energy(), 54L);
        x.pass(1);
        due("72 at station 1", x.energy(), 72L);
        x.pass(20);
        due("imbalances 0 and -1800 spend nothing", x.energy(), 72L);

        OrchardRopeway y = make();
        y.addPicker(119, 1, 3);
        y.pass(4);
        y.setSlope(1, 1);
        y.setSlope(4, 0);
        due("imbalance 319", y.imbalance(), 319);
        y.pass(1);
        due("319 / 100 is rounded down", y.energy(), 3L);
    }

    private static void promise40() {
        OrchardRopeway x = make();
        refused("nobody", ARITHMETIC, x::meanJourney);
        x.addPicker(70, 1, 2);
        x.addPicker(70, 6, 5);
        refused("nobody has arrived", ARITHMETIC, x::meanJourney);
        x.pass(3);
        x.addPicker(70, 1, 3);
        x.addPicker(70, 1, 3);
        x.pass(5);
        due("from coming to arriving", x.meanJourney(), 8.0);
        x.pass(4);
        due("(8 + 9 + 9) / 3", x.meanJourney(), 26.0 / 3.0);
        x.undo();
        due("after undo", x.meanJourney(), 8.0);
    }

    private static void promise41() {
        OrchardRopeway x = make();
        due("nobody rides", x.occupancy(), 0.0f);
        x.setCapacity(3);
        x.addPicker(70, 1, 3);
        x.addPicker(70, 5, 3);
        x.addPicker(70, 0, 3);
        due("waiting does not count", x.occupancy(), 0.0f);
        x.pass(4);
        due("2 of 6", x.occupancy(), 2.0f / 6.0f);
        x.setCapacity(5);
        due("2 of 10", x.occupancy(), 2.0f / 10.0f);
        x.setCapacity(1);
        due("2 of 2", x.occupancy(), 1.0f);

        OrchardRopeway y = make();
        y.addPicker(70, 1, 3);
        y.addPicker(70, 1, 3);
        y.addPicker(70, 5, 3);
        y.pass(4);
        due("2 and 1 of 8", y.occupancy(), 3.0f / 8.0f);
    }

    private static void promise42() {
        OrchardRopeway x = hot();
        due("new", make().isConsistent(), true);
        for (int i = 0; i < 60; i++) {
            if (x.pickers() < 20) {
                x.addPicker(40 + i, i % 7, (i + 2) % 7);
            }
            x.pass(1 + i % 5);
            due("after minute " + x.time(), x.isConsistent(), true);
        }
        x.undo();
        due("after undo", x.isConsistent(), true);
        String before = cabinLine(x, 0);
        x.isConsistent();
        due("nothing changes by asking", cabinLine(x, 0), before);
    }

    private static void promise43() {
        OrchardRopeway x = make();
        for (int i = 0; i < 12; i++) {
            x.addPicker(70, 6, 0);
            x.removePicker(i);
        }
        x.addPicker(70, 2, 6);
        x.addPicker(70, 1, 6);
        x.pass(8);
        due("length", x.writeCabin(0), 14);
        due("cabin 0", output(x, 14), "0@8+ 13>6 12>6");

        OrchardRopeway y = make();
        for (int i = 0; i < 112; i++) {
            y.addPicker(70, 6, 0);
            if (i != 10 && i != 11 && i != 100 && i != 111) {
                y.removePicker(i);
            }
        }
        y.pass(24);
        due("all digits of a number", cabinLine(y, 0), "0@24- 10>0 11>0 100>0 111>0");
        y.pass(14);
        due("two digits of a place", cabinLine(y, 0), "0@10- 10>0 11>0 100>0 111>0");
        due("the empty cabin", cabinLine(y, 1), "1@14+");
    }

    private static void promise44() {
        OrchardRopeway x = withSlopes(0, 1, 2, 3, 4, 9);
        for (int i = 0; i < 12; i++) {
            x.addPicker(70, 6, 0);
        }
        x.addPicker(70, 0, 6);
        x.addPicker(70, 3, 6);
        due("length", x.writeStations(), 26);
        due("stations", output(x, 26), "1/0/0/1/0/2/1/3/0/4/0/9/12");
        x.pass(24);
        due("stations after boarding", stationsLine(x), "0/0/0/1/0/2/0/3/0/4/0/9/8");

        OrchardRopeway y = make();
        for (int i = 0; i < 20; i++) {
            y.addPicker(70, i % 2, 6);
        }
        due("ten and ten", stationsLine(y), "10/2/10/2/0/2/0/2/0/2/0/2/0");
    }

    private static void promise45() {
        OrchardRopeway x = make();
        refused("initially empty", INDEX, () -> x.charAt(0));
        x.writeStations();
        due("charAt(0)", x.charAt(0), '0');
        due("charAt(24)", x.charAt(24), '0');
        refused("charAt(25)", INDEX, () -> x.charAt(25));
        refused("charAt(-1)", INDEX, () -> x.charAt(-1));
        refused("charAt(min)", INDEX, () -> x.charAt(Integer.MIN_VALUE));
        refused("charAt(max)", INDEX, () -> x.charAt(Integer.MAX_VALUE));
        x.writeCabin(1);
        due("the old line is replaced", x.charAt(4), '-');
        refused("and its end with it", INDEX, () -> x.charAt(5));
        refused("writeCabin(2)", INDEX, () -> x.writeCabin(2));
        refused("writeCabin(-1)", INDEX, () -> x.writeCabin(-1));
        due("a refused call keeps the line", output(x, 5), "1@24-");
        x.save();
        x.pass(1);
        x.writeCabin(0);
        x.undo();
        due("undo keeps the line", output(x, 4), "0@1+");
        x.restore();
        due("restore keeps the line", output(x, 4), "0@1+");
    }

    private static void promise46() {
        OrchardRopeway x = make();
        for (int i = 1; i <= 60; i++) {
            due("type", x.type((char) (i == 7 ? 65535 : 0)), i);
        }
        refused("character 61", STATE, () -> x.type('t'));
        refused("run", ARGUMENT, x::run);
        due("the buffer is empty afterwards", x.type('t'), 1);
        x.save();
        x.pass(1);
        x.type('u');
        x.undo();
        due("undo keeps the buffer", x.type('r'), 3);
        x.restore();
        due("restore keeps the buffer", x.type('n'), 4);
        refused("a turn at place 0, read from the kept buffer", UNSUPPORTED, x::run);
        due("failedCommand", x.failedCommand(), 0);
    }

    private static void promise47Grammar() {
        String[] programs = {
            "picker 50 0>2", "picker 050 0>2", "remove 0", "remove 00", "remove 000", "slope 0=0", "slope 5=9",
            "capacity 1", "wait", "wait 1", "wait 48", "wait 240", "wait 001", "wait;wait", "wait;wait 2;wait",
            "wait 1;turn;wait", "slope 1=2;slope 2=3", "wait;wait;wait;wait;wait;wait;wait;wait;wait;wait;wait;wait"
        };
        for (String text : programs) {
            OrchardRopeway x = make();
            x.addPicker(70, 6, 0);
            if (text.contains("turn")) {
                x.pass(3);
            }
            due("run " + text, runText(x, text), text.split(";").length);
            refused("errorPosition of " + text, ELEMENT, x::errorPosition);
        }
        String[] wrong = {"", "p", "picker", "picker ", "picker 5", "picker 55", "picker 555", "picker 50 ",
            "picker 50 1", "picker 50 1>", "remove ", "slope 3", "slope 3=", "tur", "capacity ", "capacity",
            "wai", "wait ", "turn;", "wait;", "wait 5;", "turn;t",
            "turn;turn;turn;turn;turn;turn;turn;turn;turn;turn;turn;turn;"};
        for (String text : wrong) {
            dueError(text, text.length());
        }
        dueError("x", 0);
        dueError(" turn", 0);
        dueError(";turn", 0);
        dueError("Turn", 0);
        dueError("pi9", 2);
        dueError("picker  50 1>2", 7);
        dueError("picker x", 7);
        dueError("picker 5000 1>2", 10);
        dueError("picker 50x1>2", 9);
        dueError("picker 50 12>2", 11);
        dueError("picker 50 1<2", 11);
        dueError("picker 50 1>22", 13);
        dueError("picker -5 1>2", 7);
        dueError("remove 1234", 10);
        dueError("remove1", 6);
        dueError("slope 11=2", 7);
        dueError("slope 1 =2", 7);
        dueError("slope 1=10", 9);
        dueError("slope x", 6);
        dueError("turn ", 4);
        dueError("turn turn", 4);
        dueError("turn;;turn", 5);
        dueError("turn; turn", 5);
        dueError("capacity 10", 10);
        dueError("capacity a", 9);
        dueError("waits", 4);
        dueError("wait  5", 5);
        dueError("wait x", 5);
        dueError("wait 2400", 8);
        dueError("wait 5 ", 6);
        dueError("wait/", 4);
        dueError("wait 5:", 6);
        dueError("wait 5/", 6);
        dueError("remove " + (char) 1633, 7);
        dueError("wait" + (char) 0, 4);
        dueError("remove 9;wait;quit", 14);
    }

    private static void dueError(String text, int position) {
        OrchardRopeway x = make();
        typeAll(x, text);
        refused("run of \"" + text + "\"", ARGUMENT, x::run);
        due("errorPosition of \"" + text + "\"", x.errorPosition(), position);
        refused("failedCommand after a wrong text", ELEMENT, x::failedCommand);
        refused("a wrong text is no change", STATE, x::undo);
        due("the buffer is empty after a wrong text", x.type('a'), 1);
        due("nothing is executed", x.time(), 0);
    }

    private static void promise47Commands() {
        OrchardRopeway x = make();
        due("a long program", runText(x, "picker 50 1>3;picker 120 6>0;slope 2=7;capacity 6;wait 4"), 5);
        due("weight(0)", x.weight(0), 50);
        due("weight(1)", x.weight(1), 120);
        due("destination(0)", x.destination(0), 3);
        due("cabinOf(0)", x.cabinOf(0), 0);
        due("waitingAt(6, 0)", x.waitingAt(6, 0), 1);
        due("slope(2)", x.slope(2), 7);
        due("capacity", x.capacity(), 6);
        due("time", x.time(), 4);
        due("buffer", x.type('r'), 1);
        typeAll(x, "emove 001;turn;wait;wait 003");
        due("run", x.run(), 4);
        due("isPresent(1)", x.isPresent(1), false);
        due("place(0)", x.place(0), 0);
        due("time", x.time(), 8);
        due("a program is one change", x.undo(), 1);
        due("time after undo", x.time(), 4);
        due("goesUp(0) after undo", x.goesUp(0), true);
        due("isPresent(1) after undo", x.isPresent(1), true);
        due("undo of the first program", x.undo(), 0);
        due("came after undo", x.came(), 0);
        due("slope(2) after undo", x.slope(2), 2);
        due("capacity after undo", x.capacity(), 4);
    }

    private static void promise47Failures() {
        dueFailure("picker 39 0>1", 0);
        dueFailure("picker 121 0>1", 0);
        dueFailure("picker 50 0>7", 0);
        dueFailure("picker 50 7>0", 0);
        dueFailure("picker 50 3>3", 0);
        dueFailure("picker 50 0>1;remove 9", 1);
        dueFailure("wait;wait;turn", 2);
        dueFailure("turn", 0);
        dueFailure("slope 6=1", 0);
        dueFailure("capacity 5;capacity 7", 1);
        dueFailure("capacity 0", 0);
        dueFailure("wait 1;wait 0", 1);
        dueFailure("wait 241", 0);
        dueFailure("picker 50 1>3;wait 4;remove 1", 2);
        dueFailure("slope 0=9;wait 10;picker 50 1>2;picker 50 1>1", 3);
    }

    private static void dueFailure(String text, int command) {
        OrchardRopeway x = make();
        x.addPicker(70, 6, 0);
        x.pass(24);
        String before = everything(x);
        typeAll(x, text);
        refused("run of " + text, UNSUPPORTED, x::run);
        due("failedCommand of " + text, x.failedCommand(), command);
        due("nothing changes by " + text, everything(x), before);
        due("the buffer is empty after " + text, x.type('a'), 1);
        refused("errorPosition after " + text, ELEMENT, x::errorPosition);
        due("a failed program is no change", x.undo(), 1);
        due("the change before is undone", x.time(), 0);
    }

    private static String everything(OrchardRopeway x) {
        return cabinLine(x, 0) + "|" + cabinLine(x, 1) + "|" + stationsLine(x) + "|" + x.time() + "|" + x.heat()
                + "|" + x.isBlocked() + "|" + x.capacity() + "|" + x.came() + "|" + x.arrived() + "|" + x.cameByParts()
                + "|" + x.meetings() + "|" + x.energy() + "|" + x.pickers();
    }

    private static void promise48() {
        OrchardRopeway x = make();
        refused("no text yet", ELEMENT, x::errorPosition);
        refused("empty text", ARGUMENT, x::run);
        due("position 0", x.errorPosition(), 0);
        typeAll(x, "wait,");
        refused("run", ARGUMENT, x::run);
        due("position 4", x.errorPosition(), 4);
        runText(x, "wait");
        due("the latest stays recorded", x.errorPosition(), 4);
        typeAll(x, "capacity 0");
        refused("run", UNSUPPORTED, x::run);
        due("a failed command does not count", x.errorPosition(), 4);
        x.save();
        x.undo();
        due("undo keeps it", x.errorPosition(), 4);
        x.restore();
        due("restore keeps it", x.errorPosition(), 4);
    }

    private static void promise49() {
        OrchardRopeway x = make();
        refused("no command yet", ELEMENT, x::failedCommand);
        refused("a call is no command", ARGUMENT, () -> x.pass(0));
        refused("no command failed", ELEMENT, x::failedCommand);
        typeAll(x, "wait;capacity 0");
        refused("run", UNSUPPORTED, x::run);
        due("command 1", x.failedCommand(), 1);
        runText(x, "wait");
        due("the latest stays recorded", x.failedCommand(), 1);
        refused("empty text", ARGUMENT, x::run);
        due("a wrong text does not count", x.failedCommand(), 1);
        x.save();
        x.undo();
        due("undo keeps it", x.failedCommand(), 1);
        x.restore();
        due("restore keeps it", x.failedCommand(), 1);
        typeAll(x, "capacity 9;wait");
        refused("run", UNSUPPORTED, x::run);
        due("command 0", x.failedCommand(), 0);
    }

    private static void promise50() {
        OrchardRopeway x = make();
        for (int i = 0; i < 9; i++) {
            x.pass(1);
        }
        for (int left = 7; left >= 0; left--) {
            due("undo", x.undo(), left);
            due("time after undo", x.time(), left + 1);
        }
        refused("undo of the ninth", STATE, x::undo);
        due("the oldest change stays", x.time(), 1);

        OrchardRopeway y = make();
        y.addPicker(70, 1, 3);
        y.pass(4);
        y.turn();
        y.setSlope(3, 5);
        y.setCapacity(2);
        y.addPicker(70, 1, 2);
        y.removePicker(1);
        runText(y, "wait");
        refused("a refused change is none", ARGUMENT, () -> y.pass(0));
        due("undo run", y.undo(), 7);
        due("time", y.time(), 4);
        due("undo removePicker", y.undo(), 6);
        due("isPresent(1)", y.isPresent(1), true);
        due("undo addPicker", y.undo(), 5);
        due("came", y.came(), 1);
        due("undo setCapacity", y.undo(), 4);
        due("capacity", y.capacity(), 4);
        due("undo setSlope", y.undo(), 3);
        due("slope(3)", y.slope(3), 2);
        due("undo turn", y.undo(), 2);
        due("goesUp(0)", y.goesUp(0), true);
        due("a change after undo", y.setSlope(0, 3), 2);
        due("undo it", y.undo(), 2);
        due("slope(0)", y.slope(0), 2);
        due("undo pass", y.undo(), 1);
        due("waiting(1)", y.waiting(1), 1);
        due("undo the first", y.undo(), 0);
        due("pickers", y.pickers(), 0);
        refused("nothing left", STATE, y::undo);

        OrchardRopeway z = make();
        for (int i = 0; i < 10; i++) {
            z.pass(1);
        }
        z.undo();
        z.pass(5);
        due("undone changes leave room", z.undo(), 7);
        due("time", z.time(), 9);
        due("asking and writing are no changes", z.writeStations(), 25);
        z.save();
        due("save is no change", z.undo(), 6);
        due("time", z.time(), 8);
    }

    private static void promise51And52() {
        OrchardRopeway x = make();
        refused("nothing saved", STATE, x::restore);
        x.addPicker(70, 1, 3);
        x.addPicker(70, 6, 0);
        x.pass(5);
        due("save", x.save(), 2);
        String saved = everything(x);
        x.pass(100);
        x.setSlope(1, 9);
        x.setCapacity(6);
        x.addPicker(40, 2, 5);
        due("restore", x.restore(), 2);
        due("the state", everything(x), saved);
        refused("no change can be undone", STATE, x::undo);
        x.pass(7);
        due("a later change can", x.undo(), 0);
        due("the state after undo", everything(x), saved);
        x.pass(50);
        due("it stays saved", x.restore(), 2);
        due("the state again", everything(x), saved);
        due("journeys go on", x.pass(7), 1);
        due("meanJourney", x.meanJourney(), 12.0);
        due("save in its place", x.save(), 1);
        x.addPicker(70, 6, 0);
        due("restore the later one", x.restore(), 1);
        due("time", x.time(), 12);

        OrchardRopeway y = make();
        y.pass(1);
        y.save();
        y.undo();
        due("undo leaves the saved state", y.restore(), 0);
        due("time", y.time(), 1);
    }
}
