/** Mixed runs of as many calls as an object is used for, the same every time, on the class and on the model. */
public final class ModelTest {
    private static final int RUNS = 20000;
    private static final int CALLS = 512;
    /** In some runs much is asked, in others much happens. */
    private static final int[] CHANGES_FOR_A_QUESTION = {3, 12, 50};

    private static final Checks CHECKS = new Checks("ModelTest");

    private final OrchardRopeway real = new OrchardRopeway();
    private final Model model = new Model();
    private final StringBuilder history = new StringBuilder();
    private long seed;
    /** Odd runs get many pickers, every third one steep slopes, so that both limits are reached. */
    private final int kind;
    private int calls = 0;

    private ModelTest(int run) {
        seed = run * 7919L + 17;
        kind = run;
    }

    public static void main(String[] args) {
        for (int run = 0; run < RUNS && !CHECKS.hasFailed(); run++) {
            ModelTest test = new ModelTest(run);
            test.runToTheLastCall();
            if (CHECKS.hasFailed()) {
                CHECKS.tell("run " + run + ":" + test.history);
            }
        }
        CHECKS.end();
    }

    private void runToTheLastCall() {
        int changes = CHANGES_FOR_A_QUESTION[kind / 6 % CHANGES_FOR_A_QUESTION.length];
        while (calls < CALLS && !CHECKS.hasFailed()) {
            change();
            if (random(changes) == 0) {
                ask();
            }
        }
    }

    private int random(int end) {
        seed = seed * 6364136223846793005L + 1442695040888963407L;
        return (int) ((seed >>> 33) % end);
    }

    private int near(int low, int high) {
        return random(12) == 0 ? low - 1 - random(2) : random(12) == 0 ? high + 1 + random(2)
                : low + random(high - low + 1);
    }

    /** What an object answers after its last call is free. */
    private void same(String call, Checks.Call ofReal, Checks.Call ofModel) {
        if (calls < CALLS) {
            calls++;
            CHECKS.due(call, Checks.outcome(ofReal), Checks.outcome(ofModel));
        }
    }

    private void change() {
        int dice = random(100);
        if (dice < (kind % 2 == 1 ? 45 : 22)) {
            add(near(40, 120), near(0, 6), near(0, 6));
        } else if (dice < 50) {
            pass(random(8) == 0 ? near(1, 240) : near(1, random(3) == 0 ? 30 : 5));
        } else if (dice < 60) {
            slope(near(0, 5), kind % 3 == 0 ? 9 * random(2) : near(0, 9));
        } else if (dice < 65) {
            remove(near(0, Math.max(0, model.came() - 1)));
        } else if (dice < 73) {
            does("turn()", real::turn, model::turn);
        } else if (dice < 78) {
            capacity(near(1, 6));
        } else if (dice < 85) {
            program();
        } else if (dice < 93) {
            does("undo()", real::undo, model::undo);
        } else if (dice < 96) {
            does("save()", real::save, model::save);
        } else if (dice < 98) {
            does("restore()", real::restore, model::restore);
        } else {
            write();
        }
    }

    private void does(String call, Checks.Call ofReal, Checks.Call ofModel) {
        history.append(' ').append(call);
        same(call, ofReal, ofModel);
    }

    private void add(int weight, int from, int to) {
        does("addPicker(" + weight + "," + from + "," + to + ")",
                () -> real.addPicker(weight, from, to), () -> model.addPicker(weight, from, to));
    }

    private void pass(int minutes) {
        does("pass(" + minutes + ")", () -> real.pass(minutes), () -> model.pass(minutes));
    }

    private void slope(int segment, int slope) {
        does("setSlope(" + segment + "," + slope + ")",
                () -> real.setSlope(segment, slope), () -> model.setSlope(segment, slope));
    }

    private void remove(int picker) {
        does("removePicker(" + picker + ")", () -> real.removePicker(picker), () -> model.removePicker(picker));
    }

    private void capacity(int capacity) {
        does("setCapacity(" + capacity + ")", () -> real.setCapacity(capacity), () -> model.setCapacity(capacity));
    }

    private void write() {
        int cabin = near(0, 1);
        if (random(2) == 0) {
            does("writeStations()", real::writeStations, model::writeStations);
        } else {
            does("writeCabin(" + cabin + ")", () -> real.writeCabin(cabin), () -> model.writeCabin(cabin));
        }
    }

    private void program() {
        StringBuilder text = new StringBuilder(command());
        while (text.length() < 60 && random(3) != 0) {
            text.append(';').append(command());
        }
        if (random(4) == 0) {
            damage(text);
        }
        for (int i = 0; i < text.length(); i++) {
            char character = text.charAt(i);
            does("type(" + character + ")", () -> real.type(character), () -> model.type(character));
        }
        does("run()", real::run, model::run);
    }

    private void damage(StringBuilder text) {
        int index = random(text.length());
        String signs = "pcrstw0123456789 ;=>xk" + (char) 0 + (char) 255 + (char) 9731;
        char sign = signs.charAt(random(signs.length()));
        switch (random(4)) {
            case 0 -> text.setCharAt(index, sign);
            case 1 -> text.insert(index, sign);
            case 2 -> text.deleteCharAt(index);
            default -> text.setLength(index);
        }
    }

    private String command() {
        switch (random(7)) {
            case 0:
                return "picker " + near(40, 120) + " " + random(8) + ">" + random(7);
            case 1:
                return "remove " + random(Math.max(1, model.came()));
            case 2:
                return "slope " + random(6) + "=" + random(10);
            case 3:
                return "turn";
            case 4:
                return "capacity " + random(8);
            case 5:
                return "wait";
            default:
                return "wait " + (random(9) == 0 ? random(999) : 1 + random(12));
        }
    }

    private void ask() {
        switch (random(6)) {
            case 0 -> askLine();
            case 1 -> askCabin(near(0, 1));
            case 2 -> askStation(near(0, 6));
            case 3 -> askPicker(near(0, model.came()));
            case 4 -> askSums();
            default -> askTexts();
        }
    }

    private void askLine() {
        same("time", real::time, model::time);
        same("capacity", real::capacity, model::capacity);
        same("imbalance", real::imbalance, model::imbalance);
        same("heat", real::heat, model::heat);
        same("isBlocked", real::isBlocked, model::isBlocked);
        same("blockedMinutes", real::blockedMinutes, model::blockedMinutes);
        same("blockedMinutesByPassing", real::blockedMinutesByPassing, model::blockedMinutes);
    }

    private void askCabin(int cabin) {
        same("place " + cabin, () -> real.place(cabin), () -> model.place(cabin));
        same("goesUp " + cabin, () -> real.goesUp(cabin), () -> model.goesUp(cabin));
        same("station " + cabin, () -> real.station(cabin), () -> model.station(cabin));
        same("nextSegment " + cabin, () -> real.nextSegment(cabin), () -> model.nextSegment(cabin));
        same("cabinWeight " + cabin, () -> real.cabinWeight(cabin), () -> model.cabinWeight(cabin));
        same("riders " + cabin, () -> real.riders(cabin), () -> model.riders(cabin));
        for (int position = -1; position <= 6; position++) {
            int at = position;
            same("riderAt " + cabin + " " + at, () -> real.riderAt(cabin, at), () -> model.riderAt(cabin, at));
        }
        for (int station = -1; station <= 7; station++) {
            int to = station;
            same("unitsUntil " + cabin + " " + to,
                    () -> real.unitsUntil(cabin, to), () -> model.unitsUntil(cabin, to));
            same("unitsUntilByMoving " + cabin + " " + to,
                    () -> real.unitsUntilByMoving(cabin, to), () -> model.unitsUntil(cabin, to));
        }
    }

    private void askStation(int station) {
        same("slope " + station, () -> real.slope(station), () -> model.slope(station));
        same("waiting " + station, () -> real.waiting(station), () -> model.waiting(station));
        for (int position = -1; position <= 6; position++) {
            int at = position;
            same("waitingAt " + station + " " + at,
                    () -> real.waitingAt(station, at), () -> model.waitingAt(station, at));
        }
    }

    private void askPicker(int picker) {
        same("isPresent " + picker, () -> real.isPresent(picker), () -> model.isPresent(picker));
        same("weight " + picker, () -> real.weight(picker), () -> model.weight(picker));
        same("destination " + picker, () -> real.destination(picker), () -> model.destination(picker));
        same("cabinOf " + picker, () -> real.cabinOf(picker), () -> model.cabinOf(picker));
    }

    private void askSums() {
        same("pickers", real::pickers, model::pickers);
        same("waitingStations", real::waitingStations, model::waitingStations);
        same("busiestStation", real::busiestStation, model::busiestStation);
        for (int rank = -1; rank <= model.pickers(); rank++) {
            int at = rank;
            same("pickerByWeight " + at, () -> real.pickerByWeight(at), () -> model.pickerByWeight(at));
        }
        same("came", real::came, model::came);
        same("cameByParts", real::cameByParts, model::came);
        same("the parts", () -> model.pickers() + model.arrived() + model.gone(), model::came);
        same("arrived", real::arrived, model::arrived);
        same("meetings", real::meetings, model::meetings);
        same("energy", real::energy, model::energy);
        same("meanJourney", real::meanJourney, model::meanJourney);
        same("occupancy", real::occupancy, model::occupancy);
        same("isConsistent", real::isConsistent, () -> true);
        same("errorPosition", real::errorPosition, model::errorPosition);
        same("failedCommand", real::failedCommand, model::failedCommand);
    }

    private void askTexts() {
        for (int index = -1; index <= 45; index++) {
            int at = index;
            same("charAt " + at, () -> real.charAt(at), () -> model.charAt(at));
        }
    }
}
