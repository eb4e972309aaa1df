import java.util.ArrayDeque;
import java.util.ArrayList;
import java.util.Comparator;
import java.util.Deque;
import java.util.List;
import java.util.NoSuchElementException;
import java.util.regex.Matcher;
import java.util.regex.Pattern;

/** A second ropeway, written from the document alone with the Java library, to compare the class with. */
final class Model {
    private static final Pattern PROGRAM = Pattern.compile(program());
    private static final int UNDO_LIMIT = 8;

    private record Picker(int number, int weight, int from, int to, int cameAt) {
    }

    private static final class Cabin {
        int place;
        int step;
        List<Picker> inside = new ArrayList<>();

        Cabin(int place, int step) {
            this.place = place;
            this.step = step;
        }

        Cabin copy() {
            Cabin copy = new Cabin(place, step);
            copy.inside.addAll(inside);
            return copy;
        }

        int ahead() {
            return Math.min(place, place + step) / 4;
        }

        int weight() {
            return 200 + inside.stream().mapToInt(Picker::weight).sum();
        }
    }

    private static final class State {
        Cabin[] cabins = {new Cabin(0, 1), new Cabin(24, -1)};
        int[] slopes = {2, 2, 2, 2, 2, 2};
        List<Picker> waiting = new ArrayList<>();
        List<Integer> journeys = new ArrayList<>();
        int time;
        int capacity = 4;
        int heat;
        boolean blocked;
        int came;
        int gone;
        int meetings;
        long energy;

        State copy() {
            State copy = new State();
            copy.cabins = new Cabin[] {cabins[0].copy(), cabins[1].copy()};
            copy.slopes = slopes.clone();
            copy.waiting = new ArrayList<>(waiting);
            copy.journeys = new ArrayList<>(journeys);
            copy.time = time;
            copy.capacity = capacity;
            copy.heat = heat;
            copy.blocked = blocked;
            copy.came = came;
            copy.gone = gone;
            copy.meetings = meetings;
            copy.energy = energy;
            return copy;
        }

        List<Picker> present() {
            List<Picker> all = new ArrayList<>(waiting);
            all.addAll(cabins[0].inside);
            all.addAll(cabins[1].inside);
            return all;
        }

        int imbalance() {
            int sum = 0;
            for (Cabin cabin : cabins) {
                sum += cabin.step * cabin.weight() * slopes[cabin.ahead()];
            }
            return sum;
        }

        void minute() {
            time++;
            if (blocked) {
                heat = Math.max(heat - 5, 0);
                blocked = heat > 50;
                return;
            }
            int imbalance = imbalance();
            for (Cabin cabin : cabins) {
                cabin.place += cabin.step;
            }
            if (imbalance >= 0) {
                energy += Math.floorDiv(imbalance, 100);
                heat = Math.max(heat - 1, 0);
            } else {
                heat += Math.floorDiv(Math.abs(imbalance), 200);
                blocked = heat >= 100;
            }
            if (cabins[0].place == 12) {
                meetings++;
            }
            if (cabins[0].place % 4 == 0) {
                stop();
            }
        }

        void stop() {
            for (Cabin cabin : cabins) {
                if (cabin.place == 0 || cabin.place == 24) {
                    cabin.step = -cabin.step;
                }
            }
            for (Cabin cabin : cabins) {
                for (Picker picker : List.copyOf(cabin.inside)) {
                    if (picker.to() * 4 == cabin.place) {
                        cabin.inside.remove(picker);
                        journeys.add(time - picker.cameAt());
                    }
                }
            }
            for (Cabin cabin : cabins) {
                for (Picker picker : List.copyOf(waiting)) {
                    boolean isHere = picker.from() * 4 == cabin.place;
                    boolean isAhead = (picker.to() - picker.from()) * cabin.step > 0;
                    if (isHere && isAhead && cabin.inside.size() < capacity) {
                        waiting.remove(picker);
                        cabin.inside.add(picker);
                    }
                }
            }
        }
    }

    private State state = new State();
    private State saved;
    private final Deque<State> undoable = new ArrayDeque<>();
    private String buffer = "";
    private String line = "";
    private Integer errorPosition;
    private Integer failedCommand;

    private static String program() {
        String number = "[0-9]{1,3}";
        String command = "(picker " + number + " [0-9]>[0-9]|remove " + number + "|slope [0-9]=[0-9]|turn"
                + "|capacity [0-9]|wait( " + number + ")?)";
        return command + "(;" + command + ")*";
    }

    private void changed(State before) {
        undoable.push(before);
        if (undoable.size() > UNDO_LIMIT) {
            undoable.removeLast();
        }
    }

    private static void inRange(int index, int end) {
        if (index < 0 || index >= end) {
            throw new IndexOutOfBoundsException();
        }
    }

    private static void allowed(boolean isAllowed) {
        if (!isAllowed) {
            throw new IllegalArgumentException();
        }
    }

    private Cabin cabin(int cabin) {
        inRange(cabin, 2);
        return state.cabins[cabin];
    }

    private static <T> T at(List<T> list, int position) {
        if (position < 0 || position >= list.size()) {
            throw new NoSuchElementException();
        }
        return list.get(position);
    }

    private Picker picker(int number) {
        for (Picker picker : state.present()) {
            if (picker.number() == number) {
                return picker;
            }
        }
        throw new NoSuchElementException();
    }

    private List<Picker> waitingList(int station) {
        inRange(station, 7);
        return state.waiting.stream().filter(p -> p.from() == station).toList();
    }

    int addPicker(int weight, int from, int to) {
        inRange(from, 7);
        inRange(to, 7);
        allowed(weight >= 40 && weight <= 120 && from != to);
        if (state.present().size() == 20) {
            throw new IllegalStateException();
        }
        State before = state.copy();
        state.waiting.add(new Picker(state.came, weight, from, to, state.time));
        changed(before);
        return state.came++;
    }

    int removePicker(int number) {
        Picker picker = picker(number);
        if (!state.waiting.contains(picker)) {
            throw new IllegalStateException();
        }
        changed(state.copy());
        state.waiting.remove(picker);
        state.gone++;
        return state.present().size();
    }

    int setSlope(int segment, int slope) {
        inRange(segment, 6);
        allowed(slope >= 0 && slope <= 9);
        changed(state.copy());
        int previous = state.slopes[segment];
        state.slopes[segment] = slope;
        return previous;
    }

    boolean turn() {
        int place = state.cabins[0].place;
        if (place % 4 != 0) {
            throw new IllegalStateException();
        }
        if (place == 0 || place == 24) {
            throw new UnsupportedOperationException();
        }
        changed(state.copy());
        for (Cabin cabin : state.cabins) {
            cabin.step = -cabin.step;
        }
        return state.cabins[0].step > 0;
    }

    int setCapacity(int capacity) {
        allowed(capacity >= 1 && capacity <= 6);
        for (Cabin cabin : state.cabins) {
            if (cabin.inside.size() > capacity) {
                throw new IllegalStateException();
            }
        }
        changed(state.copy());
        int previous = state.capacity;
        state.capacity = capacity;
        return previous;
    }

    int pass(int minutes) {
        allowed(minutes >= 1 && minutes <= 240);
        changed(state.copy());
        int before = state.journeys.size();
        for (int i = 0; i < minutes; i++) {
            state.minute();
        }
        return state.journeys.size() - before;
    }

    int time() {
        return state.time;
    }

    int slope(int segment) {
        inRange(segment, 6);
        return state.slopes[segment];
    }

    int capacity() {
        return state.capacity;
    }

    int imbalance() {
        return state.imbalance();
    }

    int heat() {
        return state.heat;
    }

    boolean isBlocked() {
        return state.blocked;
    }

    int blockedMinutes() {
        State copy = state.copy();
        int minutes = 0;
        for (; copy.blocked; minutes++) {
            copy.minute();
        }
        return minutes;
    }

    int place(int cabin) {
        return cabin(cabin).place;
    }

    boolean goesUp(int cabin) {
        return cabin(cabin).step > 0;
    }

    int station(int cabin) {
        if (cabin(cabin).place % 4 != 0) {
            throw new NoSuchElementException();
        }
        return cabin(cabin).place / 4;
    }

    int nextSegment(int cabin) {
        return cabin(cabin).ahead();
    }

    int cabinWeight(int cabin) {
        return cabin(cabin).weight();
    }

    int riders(int cabin) {
        return cabin(cabin).inside.size();
    }

    int riderAt(int cabin, int position) {
        return at(cabin(cabin).inside, position).number();
    }

    int unitsUntil(int cabin, int station) {
        Cabin moving = cabin(cabin).copy();
        inRange(station, 7);
        int units = 0;
        for (; moving.place != station * 4; units++) {
            moving.place += moving.step;
            if (moving.place == 0 || moving.place == 24) {
                moving.step = -moving.step;
            }
        }
        return units;
    }

    int pickers() {
        return state.present().size();
    }

    boolean isPresent(int number) {
        return state.present().stream().anyMatch(p -> p.number() == number);
    }

    int weight(int number) {
        return picker(number).weight();
    }

    int destination(int number) {
        return picker(number).to();
    }

    int cabinOf(int number) {
        Picker picker = picker(number);
        for (int cabin = 0; cabin < 2; cabin++) {
            if (state.cabins[cabin].inside.contains(picker)) {
                return cabin;
            }
        }
        throw new NoSuchElementException();
    }

    int waiting(int station) {
        return waitingList(station).size();
    }

    int waitingAt(int station, int position) {
        return at(waitingList(station), position).number();
    }

    int waitingStations() {
        return (int) state.waiting.stream().map(Picker::from).distinct().count();
    }

    int busiestStation() {
        if (state.waiting.isEmpty()) {
            throw new NoSuchElementException();
        }
        int busiest = 6;
        for (int station = 5; station >= 0; station--) {
            busiest = waiting(station) >= waiting(busiest) ? station : busiest;
        }
        return busiest;
    }

    int pickerByWeight(int rank) {
        List<Picker> sorted = new ArrayList<>(state.present());
        sorted.sort(Comparator.comparingInt((Picker p) -> -p.weight()).thenComparingInt(Picker::number));
        return at(sorted, rank).number();
    }

    int came() {
        return state.came;
    }

    int arrived() {
        return state.journeys.size();
    }

    int gone() {
        return state.gone;
    }

    int meetings() {
        return state.meetings;
    }

    long energy() {
        return state.energy;
    }

    double meanJourney() {
        if (state.journeys.isEmpty()) {
            throw new ArithmeticException();
        }
        return (double) state.journeys.stream().mapToInt(Integer::intValue).sum() / (double) state.journeys.size();
    }

    float occupancy() {
        return (float) (riders(0) + riders(1)) / (float) (2 * state.capacity);
    }

    int writeCabin(int number) {
        Cabin cabin = cabin(number);
        String text = number + "@" + cabin.place + (cabin.step > 0 ? "+" : "-");
        for (Picker picker : cabin.inside) {
            text += " " + picker.number() + ">" + picker.to();
        }
        line = text;
        return line.length();
    }

    int writeStations() {
        String text = "" + waiting(0);
        for (int segment = 0; segment < 6; segment++) {
            text += "/" + state.slopes[segment] + "/" + waiting(segment + 1);
        }
        line = text;
        return line.length();
    }

    char charAt(int index) {
        inRange(index, line.length());
        return line.charAt(index);
    }

    int type(char character) {
        if (buffer.length() == 60) {
            throw new IllegalStateException();
        }
        buffer += character;
        return buffer.length();
    }

    int run() {
        String text = buffer;
        buffer = "";
        if (!PROGRAM.matcher(text).matches()) {
            errorPosition = firstHopeless(text);
            throw new IllegalArgumentException();
        }
        State before = state.copy();
        List<State> undoableBefore = List.copyOf(undoable);
        String[] commands = text.split(";");
        for (int i = 0; i < commands.length; i++) {
            boolean succeeds = execute(commands[i]);
            undoable.clear();
            undoable.addAll(undoableBefore);
            if (!succeeds) {
                state = before;
                failedCommand = i;
                throw new UnsupportedOperationException();
            }
        }
        changed(before);
        return commands.length;
    }

    private static int firstHopeless(String text) {
        for (int end = 1; end <= text.length(); end++) {
            Matcher matcher = PROGRAM.matcher(text.substring(0, end));
            if (!matcher.matches() && !matcher.hitEnd()) {
                return end - 1;
            }
        }
        return text.length();
    }

    private boolean execute(String command) {
        String[] words = command.split("[ >=]");
        int[] values = new int[words.length];
        for (int i = 1; i < words.length; i++) {
            values[i] = Integer.parseInt(words[i]);
        }
        try {
            switch (words[0]) {
                case "picker" -> addPicker(values[1], values[2], values[3]);
                case "remove" -> removePicker(values[1]);
                case "slope" -> setSlope(values[1], values[2]);
                case "turn" -> turn();
                case "capacity" -> setCapacity(values[1]);
                default -> pass(words.length > 1 ? values[1] : 1);
            }
            return true;
        } catch (RuntimeException e) {
            return false;
        }
    }

    private static int recorded(Integer number) {
        if (number == null) {
            throw new NoSuchElementException();
        }
        return number;
    }

    int errorPosition() {
        return recorded(errorPosition);
    }

    int failedCommand() {
        return recorded(failedCommand);
    }

    int undo() {
        if (undoable.isEmpty()) {
            throw new IllegalStateException();
        }
        state = undoable.pop();
        return undoable.size();
    }

    int save() {
        saved = state.copy();
        return pickers();
    }

    int restore() {
        if (saved == null) {
            throw new IllegalStateException();
        }
        state = saved.copy();
        undoable.clear();
        return pickers();
    }
}
