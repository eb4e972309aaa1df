import java.util.LinkedHashMap;
import java.util.Map;

/** The answers of every call that asks and changes nothing, each under its name; some 300 calls at the most. */
final class Portrait {
    /** The longest line of six riders with numbers of three digits has 40 characters. */
    private static final int LONGEST_LINE = 45;

    private final Map<String, Object> answers = new LinkedHashMap<>();

    private Portrait() {
    }

    static Map<String, Object> of(OrchardRopeway x) {
        Portrait portrait = new Portrait();
        portrait.askLine(x);
        for (int cabin = 0; cabin < 2; cabin++) {
            portrait.askCabin(x, cabin);
        }
        portrait.askPickers(x);
        portrait.askStations(x);
        portrait.askSums(x);
        portrait.askTexts(x);
        return portrait.answers;
    }

    /** Without what undo() and restore() leave as it is. */
    static Map<String, Object> ofState(OrchardRopeway x) {
        Map<String, Object> answers = of(x);
        answers.remove("output");
        answers.remove("errorPosition");
        answers.remove("failedCommand");
        return answers;
    }

    /** Tells the answers in which the two differ. */
    static String difference(Map<String, Object> one, Map<String, Object> other) {
        StringBuilder text = new StringBuilder();
        for (Map.Entry<String, Object> entry : one.entrySet()) {
            Object also = other.get(entry.getKey());
            if (!entry.getValue().equals(also)) {
                text.append(' ').append(entry).append(" or ").append(also);
            }
        }
        return text.toString().trim();
    }

    private void ask(String name, Checks.Call call) {
        answers.put(name, Checks.outcome(call));
    }

    private void askLine(OrchardRopeway x) {
        ask("time", x::time);
        ask("capacity", x::capacity);
        ask("imbalance", x::imbalance);
        ask("heat", x::heat);
        ask("isBlocked", x::isBlocked);
        ask("blockedMinutes", x::blockedMinutes);
        ask("blockedMinutesByPassing", x::blockedMinutesByPassing);
        for (int segment = 0; segment < 6; segment++) {
            int of = segment;
            ask("slope " + of, () -> x.slope(of));
        }
    }

    private void askCabin(OrchardRopeway x, int cabin) {
        ask("place " + cabin, () -> x.place(cabin));
        ask("goesUp " + cabin, () -> x.goesUp(cabin));
        ask("station " + cabin, () -> x.station(cabin));
        ask("nextSegment " + cabin, () -> x.nextSegment(cabin));
        ask("cabinWeight " + cabin, () -> x.cabinWeight(cabin));
        ask("riders " + cabin, () -> x.riders(cabin));
        for (int position = 0; position <= 6; position++) {
            int at = position;
            ask("riderAt " + cabin + " " + at, () -> x.riderAt(cabin, at));
        }
        for (int station = 0; station < 7; station++) {
            int to = station;
            ask("unitsUntil " + cabin + " " + to, () -> x.unitsUntil(cabin, to));
            ask("unitsUntilByMoving " + cabin + " " + to, () -> x.unitsUntilByMoving(cabin, to));
        }
    }

    private void askPickers(OrchardRopeway x) {
        ask("pickers", x::pickers);
        for (int rank = 0; rank <= x.pickers(); rank++) {
            int at = rank;
            ask("pickerByWeight " + at, () -> x.pickerByWeight(at));
        }
        for (int picker = 0; picker <= x.came(); picker++) {
            int of = picker;
            ask("isPresent " + of, () -> x.isPresent(of));
            if (x.isPresent(of)) {
                ask("weight " + of, () -> x.weight(of));
                ask("destination " + of, () -> x.destination(of));
                ask("cabinOf " + of, () -> x.cabinOf(of));
            }
        }
    }

    private void askStations(OrchardRopeway x) {
        ask("waitingStations", x::waitingStations);
        ask("busiestStation", x::busiestStation);
        for (int station = 0; station < 7; station++) {
            int of = station;
            ask("waiting " + of, () -> x.waiting(of));
            for (int position = 0; position <= x.waiting(of); position++) {
                int at = position;
                ask("waitingAt " + of + " " + at, () -> x.waitingAt(of, at));
            }
        }
    }

    private void askSums(OrchardRopeway x) {
        ask("came", x::came);
        ask("cameByParts", x::cameByParts);
        ask("arrived", x::arrived);
        ask("meetings", x::meetings);
        ask("energy", x::energy);
        ask("meanJourney", x::meanJourney);
        ask("occupancy", x::occupancy);
        ask("isConsistent", x::isConsistent);
    }

    private void askTexts(OrchardRopeway x) {
        StringBuilder line = new StringBuilder();
        for (int index = 0; index < LONGEST_LINE; index++) {
            int at = index;
            Object sign = Checks.outcome(() -> x.charAt(at));
            if (!(sign instanceof Character)) {
                line.append(' ').append(sign);
                break;
            }
            line.append(sign);
        }
        answers.put("output", line.toString());
        ask("errorPosition", x::errorPosition);
        ask("failedCommand", x::failedCommand);
    }
}
