import java.util.NoSuchElementException;

/** A ropeway in an orchard with two cabins on one rope, which pass each other in the middle. */
public final class OrchardRopeway {
    private static final int TOP = 24;
    private static final int MIDDLE = 12;
    private static final int STATION_GAP = 4;
    private static final int STATIONS = 7;
    private static final int SEGMENTS = 6;
    private static final int CABINS = 2;
    private static final int EMPTY_CABIN_WEIGHT = 200;

    private static final int MAX_SLOPE = 9;
    private static final int MAX_CAPACITY = 6;
    private static final int MIN_WEIGHT = 40;
    private static final int MAX_WEIGHT = 120;
    private static final int MAX_PICKERS = 20;
    private static final int MAX_MINUTES = 240;

    private static final int BLOCKING_HEAT = 100;
    private static final int RELEASING_HEAT = 50;
    private static final int COOLING = 5;

    private static final int UNDO_LIMIT = 8;
    private static final int TEXT_LIMIT = 60;
    private static final int NUMBER_DIGITS = 3;
    /** A text of 60 characters has room for 12 commands. */
    private static final int COMMAND_LIMIT = 16;
    /** Room for six pickers whose numbers have as many digits as an int can have. */
    private static final int OUTPUT_LIMIT = 96;
    private static final int LARGEST_UNIT = 1000000000;
    /** Far above the minutes for which the hottest brake blocks the ropeway. */
    private static final int LOOP_LIMIT = 1000;

    private static final int NOT_RECORDED = -1;
    private static final int NO_ROW = -1;
    private static final int WAITS = -1;

    private static final int ADD = 0;
    private static final int REMOVE = 1;
    private static final int SLOPE = 2;
    private static final int TURN = 3;
    private static final int CAPACITY = 4;
    private static final int WAIT = 5;

    private static final int NO_FAULT = 0;
    private static final int NO_SUCH_INDEX = 1;
    private static final int WRONG_ARGUMENT = 2;
    private static final int WRONG_STATE = 3;
    private static final int NOT_SUPPORTED = 4;
    private static final int NO_SUCH_ELEMENT = 5;

    private final Line line = new Line();
    /** Made once, so that no call has to make a copy of the ropeway. */
    private final Line copy = new Line();
    private final Line saved = new Line();
    private boolean isSaved = false;
    private final History history = new History();
    private final OutputLine output = new OutputLine();
    private final Program program = new Program();
    private int recordedPosition = NOT_RECORDED;
    private int recordedCommand = NOT_RECORDED;

    public OrchardRopeway() {
    }

    // ---- changes

    public int addPicker(int weight, int from, int to)
            throws IndexOutOfBoundsException, IllegalArgumentException, IllegalStateException {
        return change(ADD, weight, from, to);
    }

    public int removePicker(int picker) throws NoSuchElementException, IllegalStateException {
        return change(REMOVE, picker, 0, 0);
    }

    public int setSlope(int segment, int slope) throws IndexOutOfBoundsException, IllegalArgumentException {
        return change(SLOPE, segment, slope, 0);
    }

    public boolean turn() throws IllegalStateException, UnsupportedOperationException {
        change(TURN, 0, 0, 0);
        return line.isUp(0);
    }

    public int setCapacity(int capacity) throws IllegalArgumentException, IllegalStateException {
        return change(CAPACITY, capacity, 0, 0);
    }

    public int pass(int minutes) throws IllegalArgumentException {
        return change(WAIT, minutes, 0, 0);
    }

    // ---- properties of the line

    public int time() {
        return line.time;
    }

    public int slope(int segment) throws IndexOutOfBoundsException {
        if (!isSegment(segment)) {
            throw new IndexOutOfBoundsException("there is no such segment");
        }
        return line.slopes[segment];
    }

    public int capacity() {
        return line.capacity;
    }

    public int imbalance() {
        return line.imbalanceNow();
    }

    public int heat() {
        return line.heat;
    }

    public boolean isBlocked() {
        return line.blocked;
    }

    public int blockedMinutes() {
        if (!line.blocked) {
            return 0;
        }
        return (line.heat - RELEASING_HEAT + COOLING - 1) / COOLING;
    }

    public int blockedMinutesByPassing() {
        copy.copyFrom(line);
        int minutes = 0;
        while (copy.blocked && minutes < LOOP_LIMIT) {
            copy.letPass(1);
            minutes++;
        }
        return minutes;
    }

    // ---- properties of cabins

    public int place(int cabin) throws IndexOutOfBoundsException {
        requireCabin(cabin);
        return line.placeOf(cabin);
    }

    public boolean goesUp(int cabin) throws IndexOutOfBoundsException {
        requireCabin(cabin);
        return line.isUp(cabin);
    }

    public int station(int cabin) throws IndexOutOfBoundsException, NoSuchElementException {
        requireCabin(cabin);
        if (!line.isAtStations()) {
            throw new NoSuchElementException("the cabin is not at a station");
        }
        return line.placeOf(cabin) / STATION_GAP;
    }

    public int nextSegment(int cabin) throws IndexOutOfBoundsException {
        requireCabin(cabin);
        return line.segmentAhead(cabin);
    }

    public int cabinWeight(int cabin) throws IndexOutOfBoundsException {
        requireCabin(cabin);
        return line.crowd.fullWeight(cabin);
    }

    public int riders(int cabin) throws IndexOutOfBoundsException {
        requireCabin(cabin);
        return line.crowd.countRiders(cabin);
    }

    public int riderAt(int cabin, int position) throws IndexOutOfBoundsException, NoSuchElementException {
        requireCabin(cabin);
        return line.crowd.numbers[requireRow(line.crowd.riderRow(cabin, position))];
    }

    public int unitsUntil(int cabin, int station) throws IndexOutOfBoundsException {
        requireCabin(cabin);
        requireStation(station);
        return line.unitsByFormula(cabin, station);
    }

    public int unitsUntilByMoving(int cabin, int station) throws IndexOutOfBoundsException {
        requireCabin(cabin);
        requireStation(station);
        return line.unitsByMoving(cabin, station);
    }

    // ---- properties of pickers and stations

    public int pickers() {
        return line.crowd.count;
    }

    public boolean isPresent(int picker) {
        return line.crowd.rowOf(picker) != NO_ROW;
    }

    public int weight(int picker) throws NoSuchElementException {
        return line.crowd.weights[requireRow(line.crowd.rowOf(picker))];
    }

    public int destination(int picker) throws NoSuchElementException {
        return line.crowd.destinations[requireRow(line.crowd.rowOf(picker))];
    }

    public int cabinOf(int picker) throws NoSuchElementException {
        int cabin = line.crowd.cabins[requireRow(line.crowd.rowOf(picker))];
        if (cabin == WAITS) {
            throw new NoSuchElementException("the picker waits");
        }
        return cabin;
    }

    public int waiting(int station) throws IndexOutOfBoundsException {
        requireStation(station);
        return line.crowd.countWaiting(station);
    }

    public int waitingAt(int station, int position) throws IndexOutOfBoundsException, NoSuchElementException {
        requireStation(station);
        return line.crowd.numbers[requireRow(line.crowd.waitingRow(station, position))];
    }

    public int waitingStations() {
        int stations = 0;
        for (int station = 0; station < STATIONS; station++) {
            if (line.crowd.countWaiting(station) > 0) {
                stations++;
            }
        }
        return stations;
    }

    public int busiestStation() throws NoSuchElementException {
        int busiest = 0;
        int most = 0;
        for (int station = 0; station < STATIONS; station++) {
            int count = line.crowd.countWaiting(station);
            if (count > most) {
                busiest = station;
                most = count;
            }
        }
        if (most == 0) {
            throw new NoSuchElementException("nobody waits");
        }
        return busiest;
    }

    public int pickerByWeight(int rank) throws NoSuchElementException {
        return line.crowd.numbers[requireRow(line.crowd.rowByWeight(rank))];
    }

    // ---- sums

    public int came() {
        return line.came;
    }

    public int cameByParts() {
        return line.sumOfParts();
    }

    public int arrived() {
        return line.arrived;
    }

    public int meetings() {
        return line.meetings;
    }

    public long energy() {
        return line.energy;
    }

    public double meanJourney() throws ArithmeticException {
        if (line.arrived <= 0) {
            throw new ArithmeticException("nobody has arrived");
        }
        return (double) line.journeyMinutes / (double) line.arrived;
    }

    public float occupancy() {
        int riding = line.crowd.countRiders(0) + line.crowd.countRiders(1);
        int seats = CABINS * line.capacity;
        return seats > 0 ? (float) riding / (float) seats : 0.0f;
    }

    public boolean isConsistent() {
        return line.hasSoundValues() && line.hasSoundCabins() && line.crowd.isOrdered(line.came)
                && cameByParts() == came() && blockedMinutes() == blockedMinutesByPassing();
    }

    // ---- output

    public int writeCabin(int cabin) throws IndexOutOfBoundsException {
        requireCabin(cabin);
        output.clear();
        output.putNumber(cabin);
        output.put('@');
        output.putNumber(line.placeOf(cabin));
        output.put(line.isUp(cabin) ? '+' : '-');
        int count = line.crowd.countRiders(cabin);
        for (int position = 0; position < count; position++) {
            int row = requireRow(line.crowd.riderRow(cabin, position));
            output.put(' ');
            output.putNumber(line.crowd.numbers[row]);
            output.put('>');
            output.putNumber(line.crowd.destinations[row]);
        }
        return output.length;
    }

    public int writeStations() {
        output.clear();
        output.putNumber(line.crowd.countWaiting(0));
        for (int segment = 0; segment < SEGMENTS; segment++) {
            output.put('/');
            output.putNumber(line.slopes[segment]);
            output.put('/');
            output.putNumber(line.crowd.countWaiting(segment + 1));
        }
        return output.length;
    }

    public char charAt(int index) throws IndexOutOfBoundsException {
        if (index < 0 || index >= output.length) {
            throw new IndexOutOfBoundsException("the output line has no such index");
        }
        return output.signs[index];
    }

    // ---- programs

    public int type(char character) throws IllegalStateException {
        if (program.length >= TEXT_LIMIT) {
            throw new IllegalStateException("the program buffer is full");
        }
        program.append(character);
        return program.length;
    }

    public int run() throws IllegalArgumentException, UnsupportedOperationException {
        boolean isProgram = program.parse();
        program.clear();
        if (!isProgram) {
            recordedPosition = program.position;
            throw new IllegalArgumentException("the text is not a program");
        }
        copy.copyFrom(line);
        int failed = firstFailure();
        if (failed != NOT_RECORDED) {
            line.copyFrom(copy);
            recordedCommand = failed;
            throw new UnsupportedOperationException("a command of the program failed");
        }
        history.remember(copy);
        return program.commands;
    }

    public int errorPosition() throws NoSuchElementException {
        if (recordedPosition == NOT_RECORDED) {
            throw new NoSuchElementException("every text was a program");
        }
        return recordedPosition;
    }

    public int failedCommand() throws NoSuchElementException {
        if (recordedCommand == NOT_RECORDED) {
            throw new NoSuchElementException("no command failed");
        }
        return recordedCommand;
    }

    // ---- undo and snapshots

    public int undo() throws IllegalStateException {
        if (history.count == 0) {
            throw new IllegalStateException("no change can be undone");
        }
        history.takeBack(line);
        return history.count;
    }

    public int save() {
        saved.copyFrom(line);
        isSaved = true;
        return line.crowd.count;
    }

    public int restore() throws IllegalStateException {
        if (!isSaved) {
            throw new IllegalStateException("no state was saved");
        }
        line.copyFrom(saved);
        history.count = 0;
        return line.crowd.count;
    }

    // ---- helpers of the calls above

    private int change(int kind, int first, int second, int third) {
        refuse(line.faultOf(kind, first, second, third));
        history.remember(line);
        return line.apply(kind, first, second, third);
    }

    private int firstFailure() {
        for (int i = 0; i < program.commands; i++) {
            int kind = program.kinds[i];
            int first = program.firsts[i];
            int second = program.seconds[i];
            int third = program.thirds[i];
            if (line.faultOf(kind, first, second, third) != NO_FAULT) {
                return i;
            }
            line.apply(kind, first, second, third);
        }
        return NOT_RECORDED;
    }

    private static void refuse(int fault) {
        switch (fault) {
            case NO_SUCH_INDEX:
                throw new IndexOutOfBoundsException("there is no such station or segment");
            case WRONG_ARGUMENT:
                throw new IllegalArgumentException("an argument is out of range");
            case WRONG_STATE:
                throw new IllegalStateException("the ropeway does not allow this now");
            case NOT_SUPPORTED:
                throw new UnsupportedOperationException("the cabins are at the ends of the line");
            case NO_SUCH_ELEMENT:
                throw new NoSuchElementException("there is no such picker");
            default:
                break;
        }
    }

    private static void requireCabin(int cabin) {
        if (cabin < 0 || cabin >= CABINS) {
            throw new IndexOutOfBoundsException("there is no such cabin");
        }
    }

    private static void requireStation(int station) {
        if (!isStation(station)) {
            throw new IndexOutOfBoundsException("there is no such station");
        }
    }

    private static int requireRow(int row) {
        if (row < 0 || row >= MAX_PICKERS) {
            throw new NoSuchElementException("there is no such picker");
        }
        return row;
    }

    private static boolean isStation(int station) {
        return station >= 0 && station < STATIONS;
    }

    private static boolean isSegment(int segment) {
        return segment >= 0 && segment < SEGMENTS;
    }

    /** The state that is undone, saved and restored. */
    private static final class Line {
        final int[] slopes = new int[SEGMENTS];
        final Crowd crowd = new Crowd();
        int time = 0;
        /** Only of cabin 0: place and direction of cabin 1 follow from them. */
        int place = 0;
        boolean up = true;
        int capacity = 4;
        int heat = 0;
        boolean blocked = false;
        int came = 0;
        int arrived = 0;
        int gone = 0;
        int meetings = 0;
        long energy = 0;
        long journeyMinutes = 0;

        Line() {
            for (int segment = 0; segment < SEGMENTS; segment++) {
                slopes[segment] = 2;
            }
        }

        void copyFrom(Line other) {
            for (int segment = 0; segment < SEGMENTS; segment++) {
                slopes[segment] = other.slopes[segment];
            }
            crowd.copyFrom(other.crowd);
            time = other.time;
            place = other.place;
            up = other.up;
            capacity = other.capacity;
            heat = other.heat;
            blocked = other.blocked;
            came = other.came;
            arrived = other.arrived;
            gone = other.gone;
            meetings = other.meetings;
            energy = other.energy;
            journeyMinutes = other.journeyMinutes;
        }

        /** Looked up before anything changes, so that a refused call leaves all as it was. */
        int faultOf(int kind, int first, int second, int third) {
            switch (kind) {
                case ADD:
                    return faultOfAdding(first, second, third);
                case REMOVE:
                    return faultOfRemoving(first);
                case SLOPE:
                    return faultOfSlope(first, second);
                case TURN:
                    return faultOfTurning();
                case CAPACITY:
                    return faultOfCapacity(first);
                default:
                    return first < 1 || first > MAX_MINUTES ? WRONG_ARGUMENT : NO_FAULT;
            }
        }

        int apply(int kind, int first, int second, int third) {
            switch (kind) {
                case ADD:
                    return letCome(first, second, third);
                case REMOVE:
                    return letGo(first);
                case SLOPE:
                    return replaceSlope(first, second);
                case TURN:
                    up = !up;
                    return 0;
                case CAPACITY:
                    return replaceCapacity(first);
                default:
                    return letPass(first);
            }
        }

        int faultOfAdding(int weight, int from, int to) {
            if (!isStation(from) || !isStation(to)) {
                return NO_SUCH_INDEX;
            }
            if (weight < MIN_WEIGHT || weight > MAX_WEIGHT || from == to) {
                return WRONG_ARGUMENT;
            }
            return crowd.count >= MAX_PICKERS ? WRONG_STATE : NO_FAULT;
        }

        int faultOfRemoving(int picker) {
            int row = crowd.rowOf(picker);
            if (row == NO_ROW) {
                return NO_SUCH_ELEMENT;
            }
            return crowd.cabins[row] != WAITS ? WRONG_STATE : NO_FAULT;
        }

        int faultOfSlope(int segment, int slope) {
            if (!isSegment(segment)) {
                return NO_SUCH_INDEX;
            }
            return slope < 0 || slope > MAX_SLOPE ? WRONG_ARGUMENT : NO_FAULT;
        }

        int faultOfTurning() {
            if (!isAtStations()) {
                return WRONG_STATE;
            }
            return isAtEnds() ? NOT_SUPPORTED : NO_FAULT;
        }

        int faultOfCapacity(int newCapacity) {
            if (newCapacity < 1 || newCapacity > MAX_CAPACITY) {
                return WRONG_ARGUMENT;
            }
            boolean tooMany = crowd.countRiders(0) > newCapacity || crowd.countRiders(1) > newCapacity;
            return tooMany ? WRONG_STATE : NO_FAULT;
        }

        int letCome(int weight, int from, int to) {
            int picker = came;
            crowd.append(picker, weight, from, to, time);
            came++;
            return picker;
        }

        int letGo(int picker) {
            int row = crowd.rowOf(picker);
            if (row != NO_ROW) {
                crowd.drop(row);
                gone++;
            }
            return crowd.count;
        }

        int replaceSlope(int segment, int slope) {
            int previous = slopeOf(segment);
            if (isSegment(segment)) {
                slopes[segment] = slope;
            }
            return previous;
        }

        int replaceCapacity(int newCapacity) {
            int previous = capacity;
            capacity = newCapacity;
            return previous;
        }

        int letPass(int minutes) {
            int arrivedBefore = arrived;
            for (int minute = 0; minute < minutes; minute++) {
                time++;
                if (blocked) {
                    coolDown();
                } else {
                    move(imbalanceNow());
                    if (isAtStations()) {
                        stop();
                    }
                }
            }
            return arrived - arrivedBefore;
        }

        void coolDown() {
            heat = Math.max(0, heat - COOLING);
            if (heat <= RELEASING_HEAT) {
                blocked = false;
            }
        }

        void move(int imbalance) {
            place += up ? 1 : -1;
            if (place == MIDDLE) {
                meetings++;
            }
            if (imbalance >= 0) {
                energy += imbalance / 100;
                heat = Math.max(0, heat - 1);
            } else {
                heat += -imbalance / 200;
                // Only this branch may block: it alone makes the brake hotter.
                if (heat >= BLOCKING_HEAT) {
                    blocked = true;
                }
            }
        }

        void stop() {
            if (isAtEnds()) {
                up = !up;
            }
            int presentBefore = crowd.count;
            for (int cabin = 0; cabin < CABINS; cabin++) {
                journeyMinutes += crowd.unload(cabin, placeOf(cabin) / STATION_GAP, time);
            }
            arrived += presentBefore - crowd.count;
            for (int cabin = 0; cabin < CABINS; cabin++) {
                crowd.load(cabin, placeOf(cabin) / STATION_GAP, isUp(cabin), capacity);
            }
        }

        boolean isAtStations() {
            return place % STATION_GAP == 0;
        }

        boolean isAtEnds() {
            return place == 0 || place == TOP;
        }

        int placeOf(int cabin) {
            return cabin == 0 ? place : TOP - place;
        }

        boolean isUp(int cabin) {
            return cabin == 0 ? up : !up;
        }

        int segmentAhead(int cabin) {
            int at = placeOf(cabin);
            return isUp(cabin) ? at / STATION_GAP : (at - 1) / STATION_GAP;
        }

        int slopeOf(int segment) {
            return isSegment(segment) ? slopes[segment] : 0;
        }

        int imbalanceNow() {
            int upwards = crowd.fullWeight(0) * slopeOf(segmentAhead(0))
                    - crowd.fullWeight(1) * slopeOf(segmentAhead(1));
            return up ? upwards : -upwards;
        }

        int unitsByFormula(int cabin, int station) {
            int at = placeOf(cabin);
            int target = station * STATION_GAP;
            if (isUp(cabin)) {
                return target >= at ? target - at : 2 * TOP - at - target;
            }
            return target <= at ? at - target : at + target;
        }

        int unitsByMoving(int cabin, int station) {
            int at = placeOf(cabin);
            boolean upwards = isUp(cabin);
            int target = station * STATION_GAP;
            int units = 0;
            while (at != target && units < 2 * TOP) {
                at += upwards ? 1 : -1;
                if (at == 0 || at == TOP) {
                    upwards = !upwards;
                }
                units++;
            }
            return units;
        }

        int sumOfParts() {
            int waitingPickers = 0;
            for (int station = 0; station < STATIONS; station++) {
                waitingPickers += crowd.countWaiting(station);
            }
            int riding = crowd.countRiders(0) + crowd.countRiders(1);
            return waitingPickers + riding + arrived + gone;
        }

        boolean hasSoundValues() {
            for (int segment = 0; segment < SEGMENTS; segment++) {
                if (slopes[segment] < 0 || slopes[segment] > MAX_SLOPE) {
                    return false;
                }
            }
            boolean isHeatSound = blocked ? heat > RELEASING_HEAT : heat >= 0 && heat < BLOCKING_HEAT;
            return isHeatSound && capacity >= 1 && capacity <= MAX_CAPACITY
                    && time >= 0 && meetings >= 0 && energy >= 0 && journeyMinutes >= 0;
        }

        boolean hasSoundCabins() {
            if (place < 0 || place > TOP || place == 0 && !up || place == TOP && up) {
                return false;
            }
            for (int cabin = 0; cabin < CABINS; cabin++) {
                if (crowd.countRiders(cabin) > capacity) {
                    return false;
                }
                for (int station = 0; station < STATIONS; station++) {
                    if (unitsByFormula(cabin, station) != unitsByMoving(cabin, station)) {
                        return false;
                    }
                }
            }
            return true;
        }
    }

    /** The pickers who are present, a row for each, in the order of their numbers. */
    private static final class Crowd {
        final int[] numbers = new int[MAX_PICKERS];
        final int[] weights = new int[MAX_PICKERS];
        final int[] stations = new int[MAX_PICKERS];
        final int[] destinations = new int[MAX_PICKERS];
        final int[] comings = new int[MAX_PICKERS];
        final int[] cabins = new int[MAX_PICKERS];
        final int[] boardings = new int[MAX_PICKERS];
        int count = 0;
        /** Numbers the boardings, which are not in the order of the pickers' numbers. */
        int nextBoarding = 0;

        void copyFrom(Crowd other) {
            count = other.count;
            nextBoarding = other.nextBoarding;
            for (int row = 0; row < count; row++) {
                copyRow(other, row, row);
            }
        }

        void copyRow(Crowd other, int from, int to) {
            numbers[to] = other.numbers[from];
            weights[to] = other.weights[from];
            stations[to] = other.stations[from];
            destinations[to] = other.destinations[from];
            comings[to] = other.comings[from];
            cabins[to] = other.cabins[from];
            boardings[to] = other.boardings[from];
        }

        void append(int picker, int weight, int from, int to, int time) {
            if (count >= MAX_PICKERS) {
                return;
            }
            numbers[count] = picker;
            weights[count] = weight;
            stations[count] = from;
            destinations[count] = to;
            comings[count] = time;
            cabins[count] = WAITS;
            boardings[count] = 0;
            count++;
        }

        void drop(int row) {
            for (int next = row + 1; next < count; next++) {
                copyRow(this, next, next - 1);
            }
            count--;
        }

        /** Returns the minutes that the arriving pickers have spent since they came. */
        int unload(int cabin, int station, int time) {
            int minutes = 0;
            int kept = 0;
            for (int row = 0; row < count; row++) {
                if (cabins[row] == cabin && destinations[row] == station) {
                    minutes += time - comings[row];
                } else {
                    copyRow(this, row, kept);
                    kept++;
                }
            }
            count = kept;
            return minutes;
        }

        void load(int cabin, int station, boolean upwards, int capacity) {
            int inside = countRiders(cabin);
            for (int row = 0; row < count && inside < capacity; row++) {
                boolean isAhead = upwards ? destinations[row] > station : destinations[row] < station;
                if (waitsAt(row, station) && isAhead) {
                    cabins[row] = cabin;
                    boardings[row] = nextBoarding;
                    nextBoarding++;
                    inside++;
                }
            }
        }

        boolean waitsAt(int row, int station) {
            return cabins[row] == WAITS && stations[row] == station;
        }

        int rowOf(int picker) {
            for (int row = 0; row < count; row++) {
                if (numbers[row] == picker) {
                    return row;
                }
            }
            return NO_ROW;
        }

        int countWaiting(int station) {
            int found = 0;
            for (int row = 0; row < count; row++) {
                if (waitsAt(row, station)) {
                    found++;
                }
            }
            return found;
        }

        int waitingRow(int station, int position) {
            int before = 0;
            for (int row = 0; row < count; row++) {
                if (waitsAt(row, station)) {
                    if (before == position) {
                        return row;
                    }
                    before++;
                }
            }
            return NO_ROW;
        }

        int countRiders(int cabin) {
            int found = 0;
            for (int row = 0; row < count; row++) {
                if (cabins[row] == cabin) {
                    found++;
                }
            }
            return found;
        }

        int fullWeight(int cabin) {
            int sum = EMPTY_CABIN_WEIGHT;
            for (int row = 0; row < count; row++) {
                if (cabins[row] == cabin) {
                    sum += weights[row];
                }
            }
            return sum;
        }

        int riderRow(int cabin, int position) {
            for (int row = 0; row < count; row++) {
                if (cabins[row] == cabin && countBoardedBefore(row) == position) {
                    return row;
                }
            }
            return NO_ROW;
        }

        int countBoardedBefore(int row) {
            int before = 0;
            for (int other = 0; other < count; other++) {
                if (cabins[other] == cabins[row] && boardings[other] < boardings[row]) {
                    before++;
                }
            }
            return before;
        }

        int rowByWeight(int rank) {
            for (int row = 0; row < count; row++) {
                if (countHeavier(row) == rank) {
                    return row;
                }
            }
            return NO_ROW;
        }

        int countHeavier(int row) {
            int before = 0;
            for (int other = 0; other < count; other++) {
                boolean isEqualButEarlier = weights[other] == weights[row] && other < row;
                if (weights[other] > weights[row] || isEqualButEarlier) {
                    before++;
                }
            }
            return before;
        }

        boolean isOrdered(int came) {
            int smallest = 0;
            for (int row = 0; row < count; row++) {
                if (numbers[row] < smallest || stations[row] == destinations[row]) {
                    return false;
                }
                smallest = numbers[row] + 1;
            }
            return smallest <= came;
        }
    }

    /** The states before the changes that can be undone, the latest first. */
    private static final class History {
        final Line[] states = new Line[UNDO_LIMIT];
        int count = 0;

        History() {
            for (int i = 0; i < UNDO_LIMIT; i++) {
                states[i] = new Line();
            }
        }

        void remember(Line state) {
            Line oldest = states[UNDO_LIMIT - 1];
            for (int i = UNDO_LIMIT - 1; i > 0; i--) {
                states[i] = states[i - 1];
            }
            states[0] = oldest;
            if (oldest != null) {
                oldest.copyFrom(state);
            }
            count = Math.min(count + 1, UNDO_LIMIT);
        }

        void takeBack(Line state) {
            Line latest = states[0];
            for (int i = 1; i < UNDO_LIMIT; i++) {
                states[i - 1] = states[i];
            }
            states[UNDO_LIMIT - 1] = latest;
            if (latest != null) {
                state.copyFrom(latest);
            }
            count = Math.max(count - 1, 0);
        }
    }

    private static final class OutputLine {
        final char[] signs = new char[OUTPUT_LIMIT];
        int length = 0;

        void clear() {
            length = 0;
        }

        void put(char sign) {
            if (length < OUTPUT_LIMIT) {
                signs[length] = sign;
                length++;
            }
        }

        void putNumber(int number) {
            int unit = 1;
            while (unit < LARGEST_UNIT && number >= unit * 10) {
                unit *= 10;
            }
            int rest = number;
            while (unit > 0) {
                put((char) ('0' + rest / unit));
                rest %= unit;
                unit /= 10;
            }
        }
    }

    /** The program buffer and the commands of the text that was parsed last. */
    private static final class Program {
        /** Characters above 255 can be typed, which a String or StringBuilder may not hold here. */
        final char[] text = new char[TEXT_LIMIT];
        final int[] kinds = new int[COMMAND_LIMIT];
        final int[] firsts = new int[COMMAND_LIMIT];
        final int[] seconds = new int[COMMAND_LIMIT];
        final int[] thirds = new int[COMMAND_LIMIT];
        int length = 0;
        /** No alternative of the grammar needs a step back, so a failed parse ends at the error position. */
        int position = 0;
        int commands = 0;

        void append(char character) {
            if (length < TEXT_LIMIT) {
                text[length] = character;
                length++;
            }
        }

        void clear() {
            length = 0;
        }

        boolean parse() {
            position = 0;
            commands = 0;
            boolean fits = readCommand();
            for (int i = 0; i < TEXT_LIMIT && fits && position < length; i++) {
                fits = readWord(";") && readCommand();
            }
            return fits;
        }

        boolean readCommand() {
            if (commands >= COMMAND_LIMIT) {
                return false;
            }
            boolean fits = readForm();
            if (fits) {
                commands++;
            }
            return fits;
        }

        boolean readForm() {
            switch (signAt(position)) {
                case 'p':
                    return readStart(ADD, "picker ") && readDigits(firsts, NUMBER_DIGITS)
                            && readWord(" ") && readDigits(seconds, 1) && readWord(">") && readDigits(thirds, 1);
                case 'r':
                    return readStart(REMOVE, "remove ") && readDigits(firsts, NUMBER_DIGITS);
                case 's':
                    return readStart(SLOPE, "slope ") && readDigits(firsts, 1)
                            && readWord("=") && readDigits(seconds, 1);
                case 't':
                    return readStart(TURN, "turn");
                case 'c':
                    return readStart(CAPACITY, "capacity ") && readDigits(firsts, 1);
                case 'w':
                    return readStart(WAIT, "wait") && readMinutes();
                default:
                    return false;
            }
        }

        boolean readStart(int kind, String word) {
            kinds[commands] = kind;
            return readWord(word);
        }

        boolean readMinutes() {
            if (signAt(position) == ' ') {
                position++;
                return readDigits(firsts, NUMBER_DIGITS);
            }
            firsts[commands] = 1;
            return true;
        }

        boolean readWord(String word) {
            for (int i = 0; i < word.length(); i++) {
                if (signAt(position) != word.charAt(i)) {
                    return false;
                }
                position++;
            }
            return true;
        }

        boolean readDigits(int[] column, int most) {
            int value = 0;
            int digits = 0;
            while (digits < most && isDigit(signAt(position))) {
                value = value * 10 + (signAt(position) - '0');
                position++;
                digits++;
            }
            column[commands] = value;
            return digits > 0;
        }

        /** Past the end it answers the character 0, which stands in no program. */
        char signAt(int index) {
            return index >= 0 && index < length ? text[index] : (char) 0;
        }

        static boolean isDigit(char sign) {
            return sign >= '0' && sign <= '9';
        }
    }
}
