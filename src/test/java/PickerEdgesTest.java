/** The edges that the document names for the pickers, the stops and the sums, sentence by sentence. */
public final class PickerEdgesTest extends TestBase {
    private PickerEdgesTest() {
    }

    public static void main(String[] args) {
        coming();
        leaving();
        boarding();
        ridersAndPositions();
        waitingPickers();
        presentPickers();
        ranks();
        sums();
        quotients();
        CHECKS.end();
    }

    private static void coming() {
        sentence("the numbers are consecutive, begin with 0, and are not used again", PickerEdgesTest::numbers);
        sentence("At most 20 pickers are present", PickerEdgesTest::atMostTwenty);
        sentence("A picker has a weight from 40 to 120", PickerEdgesTest::weights);
        sentence("Throws IndexOutOfBoundsException if there is no such station, for either", PickerEdgesTest::stations);
        sentence("two different stations", PickerEdgesTest::differentStations);
        sentence("who waits at a station, also if a cabin is there now", PickerEdgesTest::comingToACabin);
    }

    private static void numbers() {
        OrchardRopeway x = withEverySlope(0);
        due("the first", x.addPicker(70, 1, 2), 0);
        due("the second", x.addPicker(70, 1, 2), 1);
        refused("a refused picker", ARGUMENT, () -> x.addPicker(39, 1, 2));
        due("after a refused picker", x.addPicker(70, 1, 2), 2);
        x.removePicker(2);
        due("after the last one went", x.addPicker(70, 1, 2), 3);
        x.pass(8);
        due("arrived", x.arrived(), 3);
        due("after all arrived", x.addPicker(70, 1, 2), 4);
        x.removePicker(4);
        for (int number = 5; number < 150; number++) {
            due("the next", x.addPicker(70, 1, 2), number);
            due("nobody else", x.removePicker(number), 0);
        }
    }

    private static void atMostTwenty() {
        OrchardRopeway x = withEverySlope(0);
        for (int number = 0; number < 20; number++) {
            due("picker " + number, x.addPicker(70, number < 4 ? 1 : 3, number < 4 ? 2 : 0), number);
        }
        due("pickers", x.pickers(), 20);
        refused("picker 21", STATE, () -> x.addPicker(70, 1, 2));
        x.pass(4);
        due("four ride", x.riders(0), 4);
        refused("riders are present", STATE, () -> x.addPicker(70, 1, 2));
        x.pass(3);
        refused("before they arrive", STATE, () -> x.addPicker(70, 1, 2));
        x.pass(1);
        due("sixteen are left", x.pickers(), 16);
        for (int number = 20; number < 24; number++) {
            due("in place of one who arrived", x.addPicker(70, 1, 2), number);
        }
        refused("picker 21 again", STATE, () -> x.addPicker(70, 1, 2));
        x.removePicker(20);
        due("in place of one who went", x.addPicker(70, 1, 2), 24);
        refused("picker 21 once more", STATE, () -> x.addPicker(70, 1, 2));
        due("came", x.came(), 25);
    }

    private static void weights() {
        OrchardRopeway x = make();
        due("the lightest", x.addPicker(40, 0, 1), 0);
        due("the heaviest", x.addPicker(120, 0, 1), 1);
        due("weight(0)", x.weight(0), 40);
        due("weight(1)", x.weight(1), 120);
        for (int none : NO_WEIGHTS) {
            refused("weight " + none, ARGUMENT, () -> x.addPicker(none, 0, 1));
        }
        due("pickers", x.pickers(), 2);
    }

    private static void stations() {
        OrchardRopeway x = make();
        due("from the first to the last", x.addPicker(70, 0, 6), 0);
        due("from the last to the first", x.addPicker(70, 6, 0), 1);
        for (int none : NO_STATIONS) {
            refused("from " + none, INDEX, () -> x.addPicker(70, none, 3));
            refused("to " + none, INDEX, () -> x.addPicker(70, 3, none));
            refused("from and to " + none, INDEX, () -> x.addPicker(70, none, none));
            refused("waiting " + none, INDEX, () -> x.waiting(none));
            refused("waitingAt " + none, INDEX, () -> x.waitingAt(none, 0));
        }
        due("waiting(0)", x.waiting(0), 1);
        due("waiting(6)", x.waiting(6), 1);
        due("pickers", x.pickers(), 2);
    }

    private static void differentStations() {
        for (int from = 0; from < 7; from++) {
            for (int to = 0; to < 7; to++) {
                OrchardRopeway x = make();
                int start = from;
                int end = to;
                if (from == to) {
                    refused("from " + from + " to " + to, ARGUMENT, () -> x.addPicker(70, start, end));
                } else {
                    due("from " + from + " to " + to, x.addPicker(70, start, end), 0);
                    due("destination", x.destination(0), to);
                    due("waiting", x.waiting(from), 1);
                }
            }
        }
    }

    private static void comingToACabin() {
        for (int station = 0; station < 7; station++) {
            OrchardRopeway x = station == 6 ? at(24, false) : at(4 * station, true);
            int there = station;
            int picker = x.addPicker(70, station, station == 6 ? 0 : 6);
            due("waiting(" + there + ")", x.waiting(there), 1);
            refused("does not ride", ELEMENT, () -> x.cabinOf(picker));
            x.pass(1);
            due("the cabin has gone without", x.riders(0), 0);
            x.pass(23);
            due("the other cabin takes the picker", x.cabinOf(picker), 1);
        }
    }

    private static void leaving() {
        sentence("Promise 3: Throws NoSuchElementException if there is no such picker", PickerEdgesTest::goingOfNobody);
        sentence("Promise 3: Throws IllegalStateException if the picker rides", PickerEdgesTest::goingOfRiders);
        sentence("Returns the number of pickers who are present afterwards", PickerEdgesTest::presentAfterwards);
    }

    private static void goingOfNobody() {
        OrchardRopeway x = make();
        refused("in an empty orchard", ELEMENT, () -> x.removePicker(0));
        x.addPicker(70, 1, 2);
        x.addPicker(70, 6, 0);
        refused("the next number", ELEMENT, () -> x.removePicker(2));
        for (int none : NO_NUMBERS) {
            refused("removePicker " + none, ELEMENT, () -> x.removePicker(none));
        }
        due("removePicker(1)", x.removePicker(1), 1);
        refused("one who went", ELEMENT, () -> x.removePicker(1));
        x.pass(8);
        refused("one who arrived", ELEMENT, () -> x.removePicker(0));
        due("came", x.came(), 2);
    }

    private static void goingOfRiders() {
        OrchardRopeway x = withRiders();
        refused("a rider of cabin 0", STATE, () -> x.removePicker(1));
        refused("a rider of cabin 1", STATE, () -> x.removePicker(2));
        due("pickers", x.pickers(), 3);
        due("one who waits", x.removePicker(0), 2);
        OrchardRopeway y = make();
        y.addPicker(70, 1, 2);
        y.pass(3);
        due("a minute before boarding", y.removePicker(0), 0);
    }

    private static void presentAfterwards() {
        OrchardRopeway x = withTwentyPickers();
        due("the last of 20", x.removePicker(19), 19);
        due("the first of 19", x.removePicker(0), 18);
        due("one between", x.removePicker(9), 17);
        int left = 16;
        for (int number = 1; number < 19; number++) {
            if (number != 9) {
                due("removePicker " + number, x.removePicker(number), left);
                left--;
            }
        }
        due("pickers", x.pickers(), 0);
        due("cameByParts", x.cameByParts(), 20);
    }

    private static void boarding() {
        sentence("a picker boards if the cabin contains fewer pickers than the capacity", PickerEdgesTest::boardingUpTo);
        sentence("and the destination lies in the direction of the cabin", PickerEdgesTest::boardingInDirection);
        sentence("Pickers board in the order of their numbers", PickerEdgesTest::boardingByNumber);
        sentence("First, both directions change if the cabins are at the places 0 and 24", PickerEdgesTest::endsComeFirst);
        sentence("Second, the pickers whose destination is the station of their cabin arrive",
                PickerEdgesTest::arrivingOnlyThere);
        sentence("Third, pickers who wait board: an arrival makes room before", PickerEdgesTest::roomByArrival);
        sentence("first those of cabin 0, then those of cabin 1: both at station 3", PickerEdgesTest::bothAtOneStation);
    }

    private static void boardingUpTo() {
        for (int capacity = 1; capacity <= 6; capacity++) {
            OrchardRopeway x = withEverySlope(0);
            x.setCapacity(capacity);
            letCome(x, capacity + 1, 1, 3);
            letCome(x, capacity + 1, 5, 3);
            x.pass(4);
            due("riders of 0 at capacity " + capacity, x.riders(0), capacity);
            due("riders of 1 at capacity " + capacity, x.riders(1), capacity);
            due("left at 1", x.waitingAt(1, 0), capacity);
            due("left at 5", x.waitingAt(5, 0), 2 * capacity + 1);
        }
        OrchardRopeway x = withEverySlope(0);
        letCome(x, 2, 1, 6);
        letCome(x, 2, 2, 6);
        x.pass(4);
        x.setCapacity(3);
        x.pass(4);
        due("a capacity that was lowered", x.riders(0), 3);
        due("one is left", x.waitingAt(2, 0), 3);
    }

    private static void boardingInDirection() {
        for (int from = 1; from < 6; from++) {
            for (int to = 0; to < 7; to++) {
                if (from != to) {
                    OrchardRopeway x = make();
                    x.addPicker(70, from, to);
                    x.pass(4 * from);
                    due("cabin 0 coming up, from " + from + " to " + to, x.riders(0), from < to ? 1 : 0);
                }
            }
        }
        for (int other = 1; other < 6; other++) {
            OrchardRopeway x = make();
            x.addPicker(70, 6, other);
            x.addPicker(70, 0, other);
            x.pass(24);
            due("cabin 0 at the top, to " + other, x.riders(0), 1);
            due("cabin 1 at the bottom, to " + other, x.riders(1), 1);
        }
        for (int to = 0; to < 7; to++) {
            if (to != 3) {
                OrchardRopeway x = make();
                x.pass(13);
                x.addPicker(70, 3, to);
                x.pass(23);
                due("cabin 0 coming down, from 3 to " + to, x.riders(0), to < 3 ? 1 : 0);
                due("cabin 1 coming up, from 3 to " + to, x.riders(1), to > 3 ? 1 : 0);
            }
        }
    }

    private static void boardingByNumber() {
        OrchardRopeway x = withEverySlope(0);
        x.setCapacity(3);
        x.addPicker(120, 1, 0);
        x.addPicker(40, 1, 6);
        x.addPicker(120, 1, 2);
        x.addPicker(70, 1, 5);
        x.addPicker(120, 1, 6);
        x.pass(4);
        due("the three first upwards", cabinLine(x, 0), "0@4+ 1>6 2>2 3>5");
        due("the others wait", x.waitingAt(1, 1), 4);
    }

    private static void endsComeFirst() {
        OrchardRopeway x = make();
        x.addPicker(70, 6, 0);
        x.addPicker(70, 0, 6);
        x.pass(23);
        due("nobody rides before the ends", x.riders(0) + x.riders(1), 0);
        x.pass(1);
        due("boards downwards at the top", x.cabinOf(0), 0);
        due("boards upwards at the bottom", x.cabinOf(1), 1);
        due("cabin 0 goes down", x.goesUp(0), false);
        x.pass(24);
        due("both arrive at the ends", x.arrived(), 2);
        due("cabin 0 goes up", x.goesUp(0), true);
    }

    private static void arrivingOnlyThere() {
        for (int to = 2; to < 7; to++) {
            OrchardRopeway x = withEverySlope(0);
            x.addPicker(70, 1, to);
            x.addPicker(70, 5, 6 - to);
            for (int minute = 1; minute < 4 * to; minute++) {
                due("arrivals in minute " + minute + " for " + to, x.pass(1), 0);
            }
            due("both are inside", x.riders(0) + x.riders(1), 2);
            due("arrivals at " + to, x.pass(1), 2);
            due("nobody is inside", x.riders(0) + x.riders(1), 0);
            due("nobody is present", x.pickers(), 0);
        }
        OrchardRopeway waits = make();
        waits.addPicker(70, 3, 2);
        waits.pass(8);
        due("a picker who waits does not arrive", waits.arrived(), 0);
    }

    private static void roomByArrival() {
        OrchardRopeway x = withEverySlope(0);
        x.setCapacity(1);
        x.addPicker(70, 1, 2);
        x.addPicker(70, 2, 3);
        x.addPicker(70, 3, 4);
        x.addPicker(70, 5, 3);
        x.addPicker(70, 3, 0);
        x.pass(4);
        due("station 1", cabinLine(x, 0), "0@4+ 0>2");
        x.pass(4);
        due("station 2", cabinLine(x, 0), "0@8+ 1>3");
        x.pass(4);
        due("station 3, cabin 0", cabinLine(x, 0), "0@12+ 2>4");
        due("station 3, cabin 1", cabinLine(x, 1), "1@12- 4>0");
        due("arrived", x.arrived(), 3);
    }

    private static void bothAtOneStation() {
        OrchardRopeway x = withEverySlope(0);
        for (int to = 0; to < 7; to++) {
            if (to != 3) {
                x.addPicker(70, 3, to);
            }
        }
        x.pass(12);
        due("cabin 0", cabinLine(x, 0), "0@12+ 3>4 4>5 5>6");
        due("cabin 1", cabinLine(x, 1), "1@12- 0>0 1>1 2>2");
    }

    private static void ridersAndPositions() {
        sentence("Promise 22: Throws NoSuchElementException if there is no such position", PickerEdgesTest::positions);
        sentence("in the order in which the pickers boarded", PickerEdgesTest::orderOfBoarding);
        sentence("Promise 29: Throws NoSuchElementException if there is no such picker, or the picker waits",
                PickerEdgesTest::cabinsOfPickers);
    }

    private static void positions() {
        OrchardRopeway x = withEverySlope(0);
        x.setCapacity(6);
        refused("of an empty cabin", ELEMENT, () -> x.riderAt(0, 0));
        letCome(x, 6, 1, 3);
        letCome(x, 1, 5, 3);
        x.pass(4);
        for (int position = 0; position < 6; position++) {
            due("riderAt " + position, x.riderAt(0, position), position);
        }
        refused("behind the last of six", ELEMENT, () -> x.riderAt(0, 6));
        due("riderAt of cabin 1", x.riderAt(1, 0), 6);
        refused("behind the only one", ELEMENT, () -> x.riderAt(1, 1));
        for (int none : NO_NUMBERS) {
            refused("riderAt(0, " + none + ")", ELEMENT, () -> x.riderAt(0, none));
        }
        x.pass(8);
        refused("when all have left", ELEMENT, () -> x.riderAt(0, 0));
    }

    private static void orderOfBoarding() {
        OrchardRopeway x = withEverySlope(0);
        x.addPicker(70, 3, 5);
        x.addPicker(70, 2, 6);
        x.addPicker(70, 1, 4);
        x.addPicker(70, 1, 6);
        x.pass(12);
        due("by stations, then by numbers", cabinLine(x, 0), "0@12+ 2>4 3>6 1>6 0>5");
        x.pass(4);
        due("when the first has left", cabinLine(x, 0), "0@16+ 3>6 1>6 0>5");
        x.pass(4);
        due("when the last has left", cabinLine(x, 0), "0@20+ 3>6 1>6");
        due("position 0", x.riderAt(0, 0), 3);
        due("position 1", x.riderAt(0, 1), 1);
        refused("position 2", ELEMENT, () -> x.riderAt(0, 2));
    }

    private static void cabinsOfPickers() {
        OrchardRopeway x = withRiders();
        refused("one who waits", ELEMENT, () -> x.cabinOf(0));
        due("a rider of cabin 0", x.cabinOf(1), 0);
        due("a rider of cabin 1", x.cabinOf(2), 1);
        refused("the next number", ELEMENT, () -> x.cabinOf(3));
        for (int none : NO_NUMBERS) {
            refused("cabinOf " + none, ELEMENT, () -> x.cabinOf(none));
        }
        x.pass(12);
        refused("one who arrived", ELEMENT, () -> x.cabinOf(1));
    }

    private static void waitingPickers() {
        sentence("Promise 30: the number of pickers who wait at a station", PickerEdgesTest::waitingFromNoneTo20);
        sentence("Promise 31: Throws NoSuchElementException if there is no such position",
                PickerEdgesTest::waitingPositions);
        sentence("Promise 32: the number of stations at which somebody waits", PickerEdgesTest::waitingStations);
        sentence("Promise 33: of several the one with the smallest number", PickerEdgesTest::busiestOfSeveral);
        sentence("Promise 33: Throws NoSuchElementException if nobody waits", PickerEdgesTest::busiestOfNone);
    }

    private static void waitingFromNoneTo20() {
        for (int station = 0; station < 7; station++) {
            OrchardRopeway x = make();
            due("nobody at " + station, x.waiting(station), 0);
            letCome(x, 20, station, (station + 1) % 7);
            due("all at " + station, x.waiting(station), 20);
            due("nobody at the destination", x.waiting((station + 1) % 7), 0);
        }
        OrchardRopeway x = withRiders();
        due("a rider of cabin 0 does not wait", x.waiting(1), 0);
        due("a rider of cabin 1 does not wait", x.waiting(5), 0);
    }

    private static void waitingPositions() {
        OrchardRopeway x = make();
        refused("nobody waits", ELEMENT, () -> x.waitingAt(0, 0));
        for (int i = 0; i < 20; i++) {
            x.addPicker(70, i % 2 * 6, 3);
        }
        for (int position = 0; position < 10; position++) {
            due("at 0, position " + position, x.waitingAt(0, position), 2 * position);
            due("at 6, position " + position, x.waitingAt(6, position), 2 * position + 1);
        }
        refused("at 0, position 10", ELEMENT, () -> x.waitingAt(0, 10));
        refused("at 6, position 10", ELEMENT, () -> x.waitingAt(6, 10));
        refused("nobody at 3", ELEMENT, () -> x.waitingAt(3, 0));
        for (int none : NO_NUMBERS) {
            refused("at 0, position " + none, ELEMENT, () -> x.waitingAt(0, none));
        }
        x.removePicker(0);
        due("when the first went", x.waitingAt(0, 0), 2);
        refused("when the first went, position 9", ELEMENT, () -> x.waitingAt(0, 9));
    }

    private static void waitingStations() {
        OrchardRopeway x = make();
        due("none", x.waitingStations(), 0);
        for (int station = 0; station < 7; station++) {
            x.addPicker(70, station, (station + 1) % 7);
            x.addPicker(70, station, (station + 1) % 7);
            due("up to " + station, x.waitingStations(), station + 1);
        }
        OrchardRopeway y = withRiders();
        due("only station 6 beside riders", y.waitingStations(), 1);
        y.removePicker(0);
        due("only riders", y.waitingStations(), 0);
    }

    private static void busiestOfSeveral() {
        for (int station = 0; station < 7; station++) {
            OrchardRopeway x = make();
            for (int other = 6; other >= station; other--) {
                x.addPicker(70, other, (other + 1) % 7);
            }
            due("of one at each from " + station, x.busiestStation(), station);
            x.addPicker(70, 6, 0);
            due("of two at 6", x.busiestStation(), 6);
            x.addPicker(70, station, (station + 1) % 7);
            due("of as many at " + station, x.busiestStation(), station);
        }
    }

    private static void busiestOfNone() {
        OrchardRopeway x = withRiders();
        due("one waits at 6", x.busiestStation(), 6);
        x.removePicker(0);
        refused("only riders", ELEMENT, x::busiestStation);
        refused("nobody at all", ELEMENT, () -> make().busiestStation());
    }

    private static void presentPickers() {
        sentence("Promise 25: the number of pickers who are present", PickerEdgesTest::pickersFromNoneTo20);
        sentence("Promise 26: whether a picker with a number is present", PickerEdgesTest::presence);
        sentence("Promises 27, 28: Throws NoSuchElementException if there is no such picker",
                PickerEdgesTest::nobodysWeight);
    }

    private static void pickersFromNoneTo20() {
        OrchardRopeway x = make();
        due("none", x.pickers(), 0);
        for (int count = 1; count <= 20; count++) {
            x.addPicker(70, 2, 1);
            due("pickers", x.pickers(), count);
        }
        due("riders count, of 4 and 16", withTwentyPickers().pickers(), 20);
    }

    private static void presence() {
        OrchardRopeway x = make();
        due("0 of none", x.isPresent(0), false);
        for (int none : NO_NUMBERS) {
            due("isPresent " + none, x.isPresent(none), false);
        }
        x.addPicker(70, 1, 2);
        x.addPicker(70, 1, 0);
        due("the first", x.isPresent(0), true);
        due("the last", x.isPresent(1), true);
        due("the next", x.isPresent(2), false);
        due("-1", x.isPresent(-1), false);
        x.pass(7);
        due("a rider", x.isPresent(0), true);
        x.pass(1);
        due("one who arrived", x.isPresent(0), false);
        x.removePicker(1);
        due("one who went", x.isPresent(1), false);
    }

    private static void nobodysWeight() {
        OrchardRopeway x = make();
        refused("weight of 0 of none", ELEMENT, () -> x.weight(0));
        refused("destination of 0 of none", ELEMENT, () -> x.destination(0));
        for (int i = 0; i < 20; i++) {
            x.addPicker(101 + i, 6, i % 6);
        }
        for (int i = 0; i < 20; i++) {
            due("weight " + i, x.weight(i), 101 + i);
            due("destination " + i, x.destination(i), i % 6);
        }
        for (int none : new int[] {Integer.MIN_VALUE, -1, 20, Integer.MAX_VALUE}) {
            refused("weight " + none, ELEMENT, () -> x.weight(none));
            refused("destination " + none, ELEMENT, () -> x.destination(none));
        }
        x.removePicker(7);
        refused("weight of one who went", ELEMENT, () -> x.weight(7));
        refused("destination of one who went", ELEMENT, () -> x.destination(7));
        due("weight of the one before", x.weight(6), 107);
        due("weight of the one behind", x.weight(8), 109);
    }

    private static void ranks() {
        sentence("Promise 34: by their weights in descending order, then by their numbers in ascending order",
                PickerEdgesTest::sortedByWeight);
        sentence("Promise 34: Throws NoSuchElementException if there is no such rank", PickerEdgesTest::noRanks);
    }

    private static void sortedByWeight() {
        OrchardRopeway x = make();
        letCome(x, 20, 2, 1);
        for (int rank = 0; rank < 20; rank++) {
            due("of equal weights, rank " + rank, x.pickerByWeight(rank), rank);
        }
        OrchardRopeway y = withTwentyPickers();
        for (int rank = 0; rank < 20; rank++) {
            due("of rising weights, rank " + rank, y.pickerByWeight(rank), 19 - rank);
        }
        OrchardRopeway z = withRiders();
        z.addPicker(62, 0, 1);
        z.addPicker(120, 0, 1);
        z.addPicker(40, 0, 1);
        int[] sorted = {4, 2, 3, 1, 0, 5};
        for (int rank = 0; rank < 6; rank++) {
            due("riders among them, rank " + rank, z.pickerByWeight(rank), sorted[rank]);
        }
    }

    private static void noRanks() {
        OrchardRopeway x = make();
        refused("rank 0 of none", ELEMENT, () -> x.pickerByWeight(0));
        x.addPicker(70, 1, 2);
        due("rank 0 of one", x.pickerByWeight(0), 0);
        refused("rank 1 of one", ELEMENT, () -> x.pickerByWeight(1));
        for (int none : NO_NUMBERS) {
            refused("rank " + none, ELEMENT, () -> x.pickerByWeight(none));
        }
        refused("rank 20 of 20", ELEMENT, () -> withTwentyPickers().pickerByWeight(20));
    }

    private static void sums() {
        sentence("Promise 35: the number of pickers who have come so far", PickerEdgesTest::everybodyWhoCame);
        sentence("Promise 36: the sum of the pickers who wait, who ride, who have arrived, and who have gone away",
                PickerEdgesTest::everyPart);
        sentence("Promise 37: the number of pickers who have arrived so far", PickerEdgesTest::everybodyWhoArrived);
    }

    private static void everybodyWhoCame() {
        OrchardRopeway x = make();
        due("nobody", x.came(), 0);
        letCome(x, 20, 1, 2);
        refused("too many", STATE, () -> x.addPicker(70, 1, 2));
        due("20", x.came(), 20);
        x.removePicker(0);
        due("still 20", x.came(), 20);
        x.addPicker(70, 1, 2);
        due("21", x.came(), 21);
    }

    private static void everyPart() {
        OrchardRopeway x = make();
        due("of none", x.cameByParts(), 0);
        x.addPicker(70, 1, 2);
        due("one waits", x.cameByParts(), 1);
        x.pass(4);
        due("one rides in cabin 0", x.cameByParts(), 1);
        x.pass(4);
        due("one has arrived", x.cameByParts(), 1);
        x.addPicker(70, 6, 0);
        due("one more waits", x.cameByParts(), 2);
        x.removePicker(1);
        due("and has gone away", x.cameByParts(), 2);
        x.addPicker(70, 3, 0);
        x.pass(4);
        due("one rides in cabin 1", x.riders(1), 1);
        due("all parts but waiting", x.cameByParts(), 3);
        due("came", x.came(), 3);
    }

    private static void everybodyWhoArrived() {
        OrchardRopeway x = withEverySlope(0);
        x.setCapacity(6);
        letCome(x, 20, 1, 2);
        due("nobody", x.arrived(), 0);
        due("six in the first round", x.pass(8), 6);
        due("all in 240 minutes", x.pass(240), 14);
        due("arrived", x.arrived(), 20);
        due("nobody more", x.pass(240), 0);
        due("still 20", x.arrived(), 20);
        x.addPicker(70, 2, 1);
        x.removePicker(20);
        due("one who went has not arrived", x.arrived(), 20);
    }

    private static void quotients() {
        sentence("Promise 40: Throws ArithmeticException if nobody has arrived", PickerEdgesTest::noMean);
        sentence("Promise 40: the sum of the minutes divided by their number, both converted to double",
                PickerEdgesTest::means);
        sentence("Promise 41: the number of pickers who ride and twice the capacity", PickerEdgesTest::occupancies);
    }

    private static void noMean() {
        OrchardRopeway x = make();
        refused("nobody came", ARITHMETIC, x::meanJourney);
        x.addPicker(70, 1, 2);
        x.addPicker(70, 6, 0);
        x.removePicker(1);
        refused("one went", ARITHMETIC, x::meanJourney);
        x.pass(7);
        refused("one rides", ARITHMETIC, x::meanJourney);
        x.pass(1);
        due("one arrived", x.meanJourney(), 8.0);
        x.undo();
        refused("the arrival is undone", ARITHMETIC, x::meanJourney);
    }

    private static void means() {
        OrchardRopeway x = withEverySlope(0);
        x.pass(3);
        x.addPicker(70, 1, 2);
        x.pass(5);
        due("from the minute before boarding", x.meanJourney(), 5.0);
        x.addPicker(70, 3, 4);
        x.addPicker(70, 3, 4);
        x.pass(8);
        due("(5 + 8 + 8) / 3", x.meanJourney(), 7.0);
        x.addPicker(70, 4, 5);
        x.pass(240);
        due("(21 + 28) / 4 is not rounded", x.meanJourney(), 12.25);
    }

    private static void occupancies() {
        OrchardRopeway x = make();
        due("nobody", x.occupancy(), 0.0f);
        for (int capacity = 1; capacity <= 6; capacity++) {
            OrchardRopeway y = withEverySlope(0);
            y.setCapacity(capacity);
            letCome(y, 6, 1, 3);
            letCome(y, 6, 5, 3);
            due("who waits does not ride", y.occupancy(), 0.0f);
            y.pass(4);
            due("full at capacity " + capacity, y.occupancy(), 1.0f);
            y.setCapacity(6);
            due("of 12", y.occupancy(), (float) (2 * capacity) / 12.0f);
        }
        letCome(x, 1, 5, 3);
        x.pass(4);
        due("one of 8", x.occupancy(), 0.125f);
        x.setCapacity(3);
        due("one of 6", x.occupancy(), 1.0f / 6.0f);
    }
}
