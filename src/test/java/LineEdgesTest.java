/** The edges that the document names for the line, the cabins, the minutes and the brake, sentence by sentence. */
public final class LineEdgesTest extends TestBase {
    /** The segment of each unit of the line, from the bottom to the top. */
    private static final int[] SEGMENT_OF_UNIT = {
        0, 0, 0, 0, 1, 1, 1, 1, 2, 2, 2, 2, 3, 3, 3, 3, 4, 4, 4, 4, 5, 5, 5, 5
    };

    private LineEdgesTest() {
    }

    public static void main(String[] args) {
        lineAndCabins();
        slopesAndCapacity();
        imbalances();
        minutes();
        coolingBrake();
        motorAndHeat();
        blocking();
        turning();
        remainingMinutes();
        unitsAndMeetings();
        CHECKS.end();
    }

    private static void lineAndCabins() {
        sentence("a place on it is a number from 0 (bottom) to 24 (top)", LineEdgesTest::placesOfTwoRounds);
        sentence("If cabin 0 is at the place p, cabin 1 is at the place 24 - p", LineEdgesTest::placesOfBoth);
        sentence("Initially cabin 0 is at the place 0 and goes up", LineEdgesTest::firstPlaces);
        sentence("Cabin 1 always goes in the opposite direction", LineEdgesTest::oppositeDirections);
        sentence("both directions change if the cabins are at the places 0 and 24", LineEdgesTest::directionsOfTwoRounds);
        sentence("There are the stations 0 to 6; station s is at the place 4 * s", LineEdgesTest::stationsOfPlaces);
        sentence("There are the segments 0 to 5; segment s is between the stations s and s + 1",
                LineEdgesTest::segmentsOfPlaces);
        sentence("There are the cabins 0 and 1", LineEdgesTest::onlyTwoCabins);
        sentence("A cabin weighs 200 plus the weights of the pickers in it", LineEdgesTest::weightsOfCabins);
    }

    private static int placeAfter(int minutes) {
        int minute = minutes % 48;
        return minute <= 24 ? minute : 48 - minute;
    }

    private static void placesOfTwoRounds() {
        OrchardRopeway x = make();
        for (int minute = 0; minute <= 96; minute++) {
            due("place(0) after " + minute, x.place(0), placeAfter(minute));
            x.pass(1);
        }
    }

    private static void placesOfBoth() {
        OrchardRopeway x = make();
        for (int minute = 0; minute <= 96; minute++) {
            due("place(1) after " + minute, x.place(1), 24 - placeAfter(minute));
            x.pass(1);
        }
    }

    private static void firstPlaces() {
        OrchardRopeway x = make();
        due("place(0)", x.place(0), 0);
        due("place(1)", x.place(1), 24);
        due("goesUp(0)", x.goesUp(0), true);
        due("goesUp(1)", x.goesUp(1), false);
    }

    private static void oppositeDirections() {
        OrchardRopeway x = make();
        for (int minute = 0; minute <= 48; minute++) {
            due("goesUp(1) after " + minute, x.goesUp(1), !x.goesUp(0));
            if (minute % 4 == 0 && minute % 24 != 0) {
                x.turn();
                due("goesUp(1) after a turn at " + minute, x.goesUp(1), !x.goesUp(0));
                x.turn();
            }
            x.pass(1);
        }
    }

    private static void directionsOfTwoRounds() {
        OrchardRopeway x = make();
        for (int minute = 0; minute <= 96; minute++) {
            due("goesUp(0) after " + minute, x.goesUp(0), minute % 48 < 24);
            x.pass(1);
        }
    }

    private static void stationsOfPlaces() {
        for (int minute = 0; minute <= 48; minute++) {
            OrchardRopeway x = make();
            if (minute > 0) {
                x.pass(minute);
            }
            int place = placeAfter(minute);
            if (place % 4 == 0) {
                due("station(0) at " + place, x.station(0), place / 4);
                due("station(1) at " + (24 - place), x.station(1), 6 - place / 4);
            } else {
                refused("station(0) at " + place, ELEMENT, () -> x.station(0));
                refused("station(1) at " + (24 - place), ELEMENT, () -> x.station(1));
            }
        }
    }

    private static void segmentsOfPlaces() {
        for (int place = 0; place < 24; place++) {
            OrchardRopeway x = at(place, true);
            due("nextSegment(0) up from " + place, x.nextSegment(0), SEGMENT_OF_UNIT[place]);
            due("nextSegment(1) down from " + (24 - place), x.nextSegment(1), SEGMENT_OF_UNIT[23 - place]);
        }
        for (int place = 24; place > 0; place--) {
            OrchardRopeway x = at(place, false);
            due("nextSegment(0) down from " + place, x.nextSegment(0), SEGMENT_OF_UNIT[place - 1]);
            due("nextSegment(1) up from " + (24 - place), x.nextSegment(1), SEGMENT_OF_UNIT[24 - place]);
        }
    }

    private static void onlyTwoCabins() {
        OrchardRopeway x = withRiders();
        for (int none : NO_CABINS) {
            refused("place " + none, INDEX, () -> x.place(none));
            refused("goesUp " + none, INDEX, () -> x.goesUp(none));
            refused("station " + none, INDEX, () -> x.station(none));
            refused("nextSegment " + none, INDEX, () -> x.nextSegment(none));
            refused("cabinWeight " + none, INDEX, () -> x.cabinWeight(none));
            refused("riders " + none, INDEX, () -> x.riders(none));
            refused("riderAt " + none, INDEX, () -> x.riderAt(none, 0));
            refused("unitsUntil " + none, INDEX, () -> x.unitsUntil(none, 0));
            refused("unitsUntilByMoving " + none, INDEX, () -> x.unitsUntilByMoving(none, 0));
            refused("writeCabin " + none, INDEX, () -> x.writeCabin(none));
        }
        due("riders(0)", x.riders(0), 1);
        due("riders(1)", x.riders(1), 1);
    }

    private static void weightsOfCabins() {
        OrchardRopeway x = make();
        x.setCapacity(6);
        due("cabin 0, empty", x.cabinWeight(0), 200);
        due("cabin 1, empty", x.cabinWeight(1), 200);
        for (int i = 0; i < 6; i++) {
            x.addPicker(120, 1, 2);
        }
        x.addPicker(40, 5, 4);
        due("a picker who waits has no weight in it", x.cabinWeight(0), 200);
        x.pass(3);
        due("cabin 0 before the stop", x.cabinWeight(0), 200);
        x.pass(1);
        due("cabin 0, the heaviest", x.cabinWeight(0), 920);
        due("cabin 1 with the lightest picker", x.cabinWeight(1), 240);
        x.pass(x.blockedMinutes() + 3);
        due("cabin 0 until they leave", x.cabinWeight(0), 920);
        x.pass(1);
        due("cabin 0, empty again", x.cabinWeight(0), 200);
        due("cabin 1, empty again", x.cabinWeight(1), 200);
    }

    private static void slopesAndCapacity() {
        sentence("has a slope from 0 to 9, initially 2", LineEdgesTest::slopes);
        sentence("Throws IndexOutOfBoundsException if there is no such segment", LineEdgesTest::onlySixSegments);
        sentence("is from 1 to 6 pickers, initially 4", LineEdgesTest::capacities);
        sentence("Throws IllegalStateException if a cabin contains more pickers", LineEdgesTest::capacityOfRiders);
        sentence("the number of minutes, 1 to 240", LineEdgesTest::minutesOfPass);
    }

    private static void slopes() {
        for (int segment = 0; segment < 6; segment++) {
            OrchardRopeway x = make();
            int of = segment;
            due("initial slope " + of, x.slope(of), 2);
            due("setSlope to 0", x.setSlope(of, 0), 2);
            due("slope 0", x.slope(of), 0);
            due("setSlope to 9", x.setSlope(of, 9), 0);
            for (int none : NO_SLOPES) {
                refused("setSlope(" + of + ", " + none + ")", ARGUMENT, () -> x.setSlope(of, none));
            }
            due("slope 9", x.slope(of), 9);
            for (int other = 0; other < 6; other++) {
                due("slope " + other + " beside " + of, x.slope(other), other == of ? 9 : 2);
            }
        }
    }

    private static void onlySixSegments() {
        OrchardRopeway x = make();
        for (int none : NO_SEGMENTS) {
            refused("slope " + none, INDEX, () -> x.slope(none));
            refused("setSlope " + none, INDEX, () -> x.setSlope(none, 2));
            refused("setSlope to a wrong slope " + none, INDEX, () -> x.setSlope(none, 10));
        }
        due("setSlope(0, 1)", x.setSlope(0, 1), 2);
        due("setSlope(5, 1)", x.setSlope(5, 1), 2);
    }

    private static void capacities() {
        OrchardRopeway x = make();
        due("initial capacity", x.capacity(), 4);
        int previous = 4;
        for (int capacity : new int[] {1, 6, 5, 2, 3, 4}) {
            due("setCapacity to " + capacity, x.setCapacity(capacity), previous);
            due("capacity", x.capacity(), capacity);
            previous = capacity;
            for (int none : NO_CAPACITIES) {
                refused("setCapacity " + none, ARGUMENT, () -> x.setCapacity(none));
            }
            due("capacity after refusals", x.capacity(), capacity);
        }
    }

    private static void capacityOfRiders() {
        for (int cabin = 0; cabin < 2; cabin++) {
            for (int riders = 1; riders <= 6; riders++) {
                OrchardRopeway x = withEverySlope(0);
                x.setCapacity(6);
                letCome(x, riders, cabin == 0 ? 1 : 5, 3);
                due("just waiting they do not count", x.setCapacity(1), 6);
                x.setCapacity(6);
                x.pass(4);
                due("riders", x.riders(cabin), riders);
                for (int less = riders - 1; less >= 1; less--) {
                    int capacity = less;
                    refused(less + " for " + riders + " in " + cabin, STATE, () -> x.setCapacity(capacity));
                }
                refused("0 for " + riders, ARGUMENT, () -> x.setCapacity(0));
                due("capacity after refusals", x.capacity(), 6);
                due(riders + " for " + riders + " in " + cabin, x.setCapacity(riders), 6);
            }
        }
    }

    private static void minutesOfPass() {
        OrchardRopeway x = make();
        for (int none : NO_MINUTES) {
            refused("pass " + none, ARGUMENT, () -> x.pass(none));
        }
        due("time after refusals", x.time(), 0);
        due("pass(1)", x.pass(1), 0);
        due("time 1", x.time(), 1);
        due("pass(240)", x.pass(240), 0);
        due("time 241", x.time(), 241);
        due("pass(239)", x.pass(239), 0);
        due("time 480", x.time(), 480);
    }

    private static void imbalances() {
        sentence("The imbalance is the sum of two products, one for each cabin", LineEdgesTest::largestImbalances);
        sentence("its weight multiplied by the slope of its next segment", LineEdgesTest::imbalancesOfPlaces);
        sentence("positive if the cabin goes up and negative if it goes down", LineEdgesTest::imbalancesOfTurns);
    }

    private static OrchardRopeway withHeavyCabin(int cabin) {
        OrchardRopeway x = withEverySlope(0);
        x.setCapacity(6);
        for (int i = 0; i < 6; i++) {
            x.addPicker(120, cabin == 0 ? 1 : 5, 3);
        }
        x.pass(4);
        return x;
    }

    private static void largestImbalances() {
        OrchardRopeway x = withHeavyCabin(0);
        due("no slope at all", x.imbalance(), 0);
        x.setSlope(1, 9);
        due("920 * 9", x.imbalance(), 8280);
        x.setSlope(4, 9);
        due("920 * 9 - 200 * 9", x.imbalance(), 6480);

        OrchardRopeway y = withHeavyCabin(1);
        y.setSlope(4, 9);
        due("-920 * 9", y.imbalance(), -8280);
        y.setSlope(1, 9);
        due("200 * 9 - 920 * 9", y.imbalance(), -6480);
    }

    private static void imbalancesOfPlaces() {
        for (int place = 0; place < 24; place++) {
            OrchardRopeway x = at(place, true);
            setRisingSlopes(x);
            int up = SEGMENT_OF_UNIT[place] + 1;
            int down = SEGMENT_OF_UNIT[23 - place] + 1;
            due("imbalance up from " + place, x.imbalance(), 200 * up - 200 * down);
        }
        for (int place = 24; place > 0; place--) {
            OrchardRopeway x = at(place, false);
            setRisingSlopes(x);
            int up = SEGMENT_OF_UNIT[24 - place] + 1;
            int down = SEGMENT_OF_UNIT[place - 1] + 1;
            due("imbalance down from " + place, x.imbalance(), 200 * up - 200 * down);
        }
    }

    private static void setRisingSlopes(OrchardRopeway x) {
        for (int segment = 0; segment < 6; segment++) {
            x.setSlope(segment, segment + 1);
        }
    }

    private static void imbalancesOfTurns() {
        OrchardRopeway x = withLoads(70, 50);
        due("270 up, 250 down", x.imbalance(), 20);
        x.turn();
        due("270 down, 250 up", x.imbalance(), -20);
        x.turn();
        due("270 up again", x.imbalance(), 20);
        OrchardRopeway y = withLoads(50, 70);
        due("250 up, 270 down", y.imbalance(), -20);
        y.turn();
        due("250 down, 270 up", y.imbalance(), 20);
    }

    private static void minutes() {
        sentence("In every minute, the time, which is initially 0, increases by 1", LineEdgesTest::timeOfEveryMinute);
        sentence("nothing else happens in this minute", LineEdgesTest::blockedMinutesDoNothing);
        sentence("If the ropeway is not blocked, both cabins move by one unit", LineEdgesTest::firstMoveAfterBlock);
        sentence("Then, if the cabins are at stations, they stop", LineEdgesTest::stopsOnlyAtStations);
        sentence("if it is 100 or more then, the ropeway is blocked. Then, if the cabins are at stations, they stop",
                LineEdgesTest::stopInBlockingMinute);
    }

    private static void timeOfEveryMinute() {
        OrchardRopeway x = hot();
        for (int minute = 0; minute <= 60; minute++) {
            due("time", x.time(), minute);
            x.pass(1);
        }
    }

    private static void blockedMinutesDoNothing() {
        OrchardRopeway x = withHeat(105);
        x.setSlope(3, 9);
        x.addPicker(70, 3, 6);
        x.addPicker(70, 3, 0);
        long energy = x.energy();
        for (int heat = 100; heat >= 50; heat -= 5) {
            due("nobody arrives", x.pass(1), 0);
            due("heat", x.heat(), heat);
            due("place at heat " + heat, x.place(0), 12);
            due("goesUp at heat " + heat, x.goesUp(0), true);
            due("energy at heat " + heat, x.energy(), energy);
            due("meetings at heat " + heat, x.meetings(), 1);
            due("riders at heat " + heat, x.riders(0) + x.riders(1), 0);
            due("isBlocked at heat " + heat, x.isBlocked(), heat > 50);
        }
    }

    private static void firstMoveAfterBlock() {
        OrchardRopeway x = withHeat(100);
        x.setSlope(3, 0);
        x.setSlope(2, 0);
        x.pass(10);
        due("place in the minute that frees", x.place(0), 12);
        x.pass(1);
        due("place(0) a minute later", x.place(0), 13);
        due("place(1) a minute later", x.place(1), 11);
        due("heat a minute later", x.heat(), 49);
    }

    private static void stopsOnlyAtStations() {
        for (int place = 1; place <= 19; place++) {
            OrchardRopeway x = make();
            if (place > 1) {
                x.pass(place - 1);
            }
            int below = place / 4;
            x.addPicker(70, below, 6);
            x.addPicker(70, below + 1, 6);
            x.pass(1);
            due("riders at " + place, x.riders(0), place % 4 == 0 ? 1 : 0);
        }
        OrchardRopeway y = make();
        y.addPicker(70, 1, 2);
        y.pass(7);
        due("still inside before the station", y.riders(0), 1);
        due("not arrived before the station", y.arrived(), 0);
        due("arrives at the station", y.pass(1), 1);
    }

    private static void stopInBlockingMinute() {
        OrchardRopeway x = withHeat(99);
        x.addPicker(70, 3, 6);
        heatUp(x, 1);
        due("heat", x.heat(), 100);
        due("isBlocked", x.isBlocked(), true);
        due("place", x.place(0), 12);
        due("boards", x.riders(0), 1);
        due("meets", x.meetings(), 1);
    }

    private static void coolingBrake() {
        sentence("The brake has a heat, initially 0, and the ropeway is blocked or not, initially not", () -> {
            due("heat", make().heat(), 0);
            due("isBlocked", make().isBlocked(), false);
        });
        sentence("the heat then decreases by 5", LineEdgesTest::coolingByFive);
        sentence("if it is at most 50 then, the ropeway is not blocked any more", LineEdgesTest::freeAtFifty);
    }

    private static void coolingByFive() {
        OrchardRopeway x = withHeat(108);
        for (int heat = 108; heat >= 48; heat -= 5) {
            due("heat", x.heat(), heat);
            x.pass(1);
        }
        OrchardRopeway y = withHeat(108);
        y.pass(11);
        due("heat after 11 minutes at once", y.heat(), 53);
    }

    private static void freeAtFifty() {
        int[] hottestFree = {50, 46, 47, 48, 49};
        for (int heat = 100; heat <= 108; heat++) {
            OrchardRopeway x = withHeat(heat);
            int free = hottestFree[heat % 5];
            x.pass((heat - free) / 5 - 1);
            due("heat before, from " + heat, x.heat(), free + 5);
            due("blocked at " + (free + 5), x.isBlocked(), true);
            x.pass(1);
            due("heat, from " + heat, x.heat(), free);
            due("blocked at " + free, x.isBlocked(), false);
        }
    }

    private static void motorAndHeat() {
        sentence("With an imbalance of 0 or more before this move", LineEdgesTest::imbalanceBeforeTheMove);
        sentence("the motor spends as much energy as the imbalance divided by 100", LineEdgesTest::energyOfImbalances);
        sentence("with a negative imbalance, the heat increases by the absolute value of the imbalance divided by 200",
                LineEdgesTest::heatOfImbalances);
        sentence("the heat decreases by 1, but not below 0", LineEdgesTest::coolingByOne);
        sentence("with a negative imbalance, the heat increases: it does not decrease even if nothing is added", LineEdgesTest::noCoolingBelowZero);
    }

    private static void imbalanceBeforeTheMove() {
        OrchardRopeway x = withSlopes(1, 9, 0, 0, 0, 0);
        x.addPicker(100, 1, 2);
        x.pass(4);
        due("200 * 1 / 100 in each minute of segment 0", x.energy(), 8L);
        x.pass(1);
        due("300 * 9 / 100 from station 1", x.energy(), 35L);
        x.pass(3);
        due("the rider weighs up to station 2", x.energy(), 116L);
        x.pass(1);
        due("segment 2 has no slope", x.energy(), 116L);
        due("heat", x.heat(), 0);
    }

    private static void energyOfImbalances() {
        dueAfterMinute(0, 0, 0L, 0);
        dueAfterMinute(41, 40, 0L, 0);
        dueAfterMinute(99, 0, 0L, 0);
        dueAfterMinute(100, 0, 1L, 0);
        dueAfterMinute(101, 0, 1L, 0);
        dueAfterMinute(199, 0, 1L, 0);
        dueAfterMinute(200, 0, 2L, 0);
        dueAfterMinute(399, 0, 3L, 0);
        dueAfterMinute(400, 0, 4L, 0);
        dueAfterMinute(480, 0, 4L, 0);
    }

    private static void heatOfImbalances() {
        dueAfterMinute(40, 41, 0L, 0);
        dueAfterMinute(0, 99, 0L, 0);
        dueAfterMinute(0, 100, 0L, 0);
        dueAfterMinute(0, 199, 0L, 0);
        dueAfterMinute(0, 200, 0L, 1);
        dueAfterMinute(0, 201, 0L, 1);
        dueAfterMinute(0, 399, 0L, 1);
        dueAfterMinute(0, 400, 0L, 2);
        dueAfterMinute(0, 480, 0L, 2);
    }

    private static void dueAfterMinute(int upwards, int downwards, long energy, int heat) {
        OrchardRopeway x = withLoads(upwards, downwards);
        String name = " for imbalance " + (upwards - downwards);
        due("imbalance", x.imbalance(), upwards - downwards);
        due("energy before", x.energy(), 0L);
        x.pass(1);
        due("energy" + name, x.energy(), energy);
        due("heat" + name, x.heat(), heat);
        due("place" + name, x.place(0), 5);
    }

    private static void coolingByOne() {
        OrchardRopeway x = withLoads(0, 400);
        x.pass(1);
        due("heat", x.heat(), 2);
        x.setSlope(1, 3);
        due("imbalance", x.imbalance(), 0);
        for (int heat : new int[] {1, 0, 0}) {
            x.pass(1);
            due("heat with imbalance 0", x.heat(), heat);
        }
        OrchardRopeway y = withLoads(41, 240);
        y.setSlope(4, 2);
        y.pass(1);
        due("heat", y.heat(), 3);
        y.setSlope(1, 2);
        y.setSlope(4, 1);
        due("a positive imbalance", y.imbalance(), 42);
        for (int heat : new int[] {2, 1, 0}) {
            y.pass(1);
            due("heat with imbalance 42", y.heat(), heat);
        }
    }

    private static void noCoolingBelowZero() {
        OrchardRopeway x = withLoads(50, 301);
        x.pass(1);
        due("heat by 251 / 200", x.heat(), 1);
        x.setSlope(1, 2);
        due("imbalance", x.imbalance(), -1);
        x.pass(1);
        due("heat with imbalance -1", x.heat(), 1);
        due("energy with imbalance -1", x.energy(), 0L);
    }

    private static void blocking() {
        sentence("if it is 100 or more then, the ropeway is blocked", () -> {
            blockedAtHundred();
            hottestBrake();
        });
    }

    private static void blockedAtHundred() {
        for (int heat = 97; heat <= 108; heat++) {
            OrchardRopeway x = withHeat(heat);
            due("heat", x.heat(), heat);
            due("isBlocked at " + heat, x.isBlocked(), heat >= 100);
        }
        OrchardRopeway x = withHeat(99);
        x.setSlope(x.nextSegment(1), 0);
        x.pass(1);
        due("99 cools", x.heat(), 98);
        due("98 is free", x.isBlocked(), false);
    }

    private static void hottestBrake() {
        OrchardRopeway x = hottest();
        due("heat 36 + 27 + 36 + 41", x.heat(), 140);
        due("isBlocked", x.isBlocked(), true);
        due("place", x.place(0), 7);
        x.pass(17);
        due("heat after 17 minutes", x.heat(), 55);
        due("blocked after 17 minutes", x.isBlocked(), true);
        x.pass(1);
        due("free after 18 minutes", x.isBlocked(), false);
        due("the place has not changed", x.place(0), 7);
    }

    private static void turning() {
        sentence("Changes the directions of both cabins, which must be at stations", LineEdgesTest::turnsAtStations);
        sentence("Throws IllegalStateException if the cabins are not at stations", LineEdgesTest::noTurnsBetween);
        sentence("Throws UnsupportedOperationException if the cabins are at the places 0 and 24",
                LineEdgesTest::noTurnsAtEnds);
        sentence("also while the ropeway is blocked", LineEdgesTest::turnsWhileBlocked);
        sentence("Nobody boards or leaves a cabin by that", LineEdgesTest::turnsMoveNobody);
    }

    private static void turnsAtStations() {
        for (int place = 4; place <= 20; place += 4) {
            for (boolean up : new boolean[] {true, false}) {
                OrchardRopeway x = at(place, up);
                due("turn at " + place, x.turn(), !up);
                due("goesUp(0) at " + place, x.goesUp(0), !up);
                due("goesUp(1) at " + place, x.goesUp(1), up);
                due("place", x.place(0), place);
                due("turn again at " + place, x.turn(), up);
            }
        }
    }

    private static void noTurnsBetween() {
        for (int place = 1; place <= 23; place++) {
            if (place % 4 != 0) {
                OrchardRopeway up = at(place, true);
                refused("turn up at " + place, STATE, up::turn);
                due("still up", up.goesUp(0), true);
                OrchardRopeway down = at(place, false);
                refused("turn down at " + place, STATE, down::turn);
                due("still down", down.goesUp(0), false);
            }
        }
        OrchardRopeway blocked = hottest();
        refused("turn while blocked between stations", STATE, blocked::turn);
        due("still up", blocked.goesUp(0), true);
    }

    private static void noTurnsAtEnds() {
        for (int minutes : new int[] {0, 24, 48}) {
            OrchardRopeway x = make();
            if (minutes > 0) {
                x.pass(minutes);
            }
            refused("turn after " + minutes, UNSUPPORTED, x::turn);
            due("still as before", x.goesUp(0), minutes != 24);
        }
        OrchardRopeway blocked = withEverySlope(0);
        for (int minute = 1; minute <= 24; minute++) {
            heatUp(blocked, minute < 20 ? 4 : minute < 24 ? 5 : 9);
        }
        due("place", blocked.place(0), 24);
        due("isBlocked", blocked.isBlocked(), true);
        refused("turn while blocked at 24", UNSUPPORTED, blocked::turn);
    }

    private static void turnsWhileBlocked() {
        OrchardRopeway x = withHeat(100);
        due("turn", x.turn(), false);
        due("isBlocked", x.isBlocked(), true);
        due("heat", x.heat(), 100);
        x.pass(10);
        due("free", x.isBlocked(), false);
        x.pass(1);
        due("goes down after that", x.place(0), 11);
    }

    private static void turnsMoveNobody() {
        OrchardRopeway x = withEverySlope(0);
        x.addPicker(70, 1, 3);
        x.addPicker(71, 1, 0);
        x.addPicker(72, 5, 3);
        x.addPicker(73, 5, 6);
        x.pass(4);
        x.turn();
        due("riders of 0", cabinLine(x, 0), "0@4- 0>3");
        due("riders of 1", cabinLine(x, 1), "1@20+ 2>3");
        due("both others wait", x.waiting(1) + x.waiting(5), 2);
        due("nobody arrives", x.arrived(), 0);
        due("time", x.time(), 4);
        x.turn();
        due("riders of 0 after a turn back", cabinLine(x, 0), "0@4+ 0>3");
    }

    private static void remainingMinutes() {
        sentence("Promise 14: Returns the number of minutes, 0 if it is not blocked", () ->
                dueRemaining(OrchardRopeway::blockedMinutes));
        sentence("Promise 15: Returns the same number, by letting minutes pass on a copy of the ropeway", () -> {
            dueRemaining(OrchardRopeway::blockedMinutesByPassing);
            OrchardRopeway x = hottest();
            Object before = Portrait.of(x);
            x.blockedMinutesByPassing();
            due("the ropeway itself stays as it was", Portrait.of(x), before);
        });
    }

    private interface Remaining {
        int of(OrchardRopeway x);
    }

    private static void dueRemaining(Remaining remaining) {
        due("a new ropeway", remaining.of(make()), 0);
        due("hot but free at 51", remaining.of(withHeat(51)), 0);
        due("hot but free at 99", remaining.of(withHeat(99)), 0);
        int[] minutesFrom100 = {10, 11, 11, 11, 11, 11, 12, 12, 12};
        for (int i = 0; i < minutesFrom100.length; i++) {
            OrchardRopeway x = withHeat(100 + i);
            for (int minutes = minutesFrom100[i]; minutes > 0; minutes--) {
                due("heat " + x.heat(), remaining.of(x), minutes);
                due("blocked in minute " + minutes, x.isBlocked(), true);
                x.pass(1);
            }
            due("free at " + x.heat(), remaining.of(x), 0);
            due("not blocked", x.isBlocked(), false);
        }
        due("heat 140", remaining.of(hottest()), 18);
    }

    private static void unitsAndMeetings() {
        sentence("Promise 23: by how many units a cabin has to move; 0 if it is there now", () ->
                dueUnits(OrchardRopeway::unitsUntil));
        sentence("Promise 24: the same number, by moving unit by unit; 0 if it is there now", () ->
                dueUnits(OrchardRopeway::unitsUntilByMoving));
        sentence("have come to the place 12", LineEdgesTest::meetingsInTheMiddle);
    }

    private interface Units {
        int until(OrchardRopeway x, int cabin, int station);
    }

    /** A round has 48 moves; after them a cabin is where it was, in the same direction. */
    private static void dueUnits(Units units) {
        for (int minute = 0; minute < 48; minute++) {
            OrchardRopeway x = make();
            if (minute > 0) {
                x.pass(minute);
            }
            for (int station = 0; station < 7; station++) {
                String from = " from minute " + minute + " to " + station;
                due("cabin 0" + from, units.until(x, 0, station), movesFrom(minute, station));
                due("cabin 1" + from, units.until(x, 1, station), movesFrom(minute + 24, station));
            }
            due("place", x.place(0), placeAfter(minute));
        }
        due("the longest way, cabin 0", units.until(at(1, true), 0, 0), 47);
        due("the longest way, cabin 1", units.until(at(1, true), 1, 6), 47);
        due("at station 0 now", units.until(make(), 0, 0), 0);
        due("at station 6 now", units.until(make(), 1, 6), 0);
        OrchardRopeway turned = at(4, true);
        turned.turn();
        due("behind a turned cabin", units.until(turned, 0, 2), 12);
        for (int none : NO_STATIONS) {
            refused("station " + none, INDEX, () -> units.until(turned, 0, none));
            refused("station " + none + " of cabin 2", INDEX, () -> units.until(turned, 2, none));
        }
        for (int none : NO_CABINS) {
            refused("cabin " + none, INDEX, () -> units.until(turned, none, 6));
        }
    }

    private static int movesFrom(int phase, int station) {
        int moves = 0;
        while (placeAfter(phase + moves) != 4 * station) {
            moves++;
        }
        return moves;
    }

    private static void meetingsInTheMiddle() {
        OrchardRopeway x = make();
        for (int minute = 1; minute <= 96; minute++) {
            x.pass(1);
            due("meetings after " + minute, x.meetings(), (minute + 12) / 24);
        }
        OrchardRopeway y = at(12, true);
        y.turn();
        y.pass(4);
        y.turn();
        due("turned in the middle and behind it", y.meetings(), 1);
        y.pass(3);
        due("before the middle", y.meetings(), 1);
        y.pass(1);
        due("in the middle again", y.meetings(), 2);
        OrchardRopeway z = at(8, true);
        z.turn();
        z.pass(8);
        due("turned before the middle", z.meetings(), 0);
    }
}
