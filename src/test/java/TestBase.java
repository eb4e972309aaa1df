import java.util.NoSuchElementException;

/** What the tests by hand share: ropeways in the states that they need, and texts of what a ropeway writes. */
abstract class TestBase {
    static final Class<IndexOutOfBoundsException> INDEX = IndexOutOfBoundsException.class;
    static final Class<IllegalArgumentException> ARGUMENT = IllegalArgumentException.class;
    static final Class<IllegalStateException> STATE = IllegalStateException.class;
    static final Class<UnsupportedOperationException> UNSUPPORTED = UnsupportedOperationException.class;
    static final Class<NoSuchElementException> ELEMENT = NoSuchElementException.class;
    static final Class<ArithmeticException> ARITHMETIC = ArithmeticException.class;

    static final int[] NO_CABINS = {Integer.MIN_VALUE, -1, 2, Integer.MAX_VALUE};
    static final int[] NO_STATIONS = {Integer.MIN_VALUE, -1, 7, Integer.MAX_VALUE};
    static final int[] NO_SEGMENTS = {Integer.MIN_VALUE, -1, 6, Integer.MAX_VALUE};
    static final int[] NO_SLOPES = {Integer.MIN_VALUE, -1, 10, Integer.MAX_VALUE};
    static final int[] NO_WEIGHTS = {Integer.MIN_VALUE, -1, 0, 39, 121, Integer.MAX_VALUE};
    static final int[] NO_CAPACITIES = {Integer.MIN_VALUE, -1, 0, 7, Integer.MAX_VALUE};
    static final int[] NO_MINUTES = {Integer.MIN_VALUE, -1, 0, 241, Integer.MAX_VALUE};
    /** Neither a picker nor a position nor a rank. */
    static final int[] NO_NUMBERS = {Integer.MIN_VALUE, -1, Integer.MAX_VALUE};

    static final Checks CHECKS = new Checks("by hand");

    static void due(String call, Object got, Object want) {
        CHECKS.due(call, got, want);
    }

    static void refused(String call, Class<? extends RuntimeException> want, Checks.Call made) {
        CHECKS.refused(call, want, made);
    }

    /** A test of one sentence of the document, or of a part of one, which is told before each wrong answer. */
    static void sentence(String text, Runnable test) {
        CHECKS.about(text);
        int before = CHECKS.made();
        try {
            test.run();
        } catch (RuntimeException e) {
            CHECKS.tell("the test ended with " + e);
        }
        if (CHECKS.made() == before) {
            CHECKS.tell("the test has looked at nothing");
        }
    }

    static OrchardRopeway make() {
        return new OrchardRopeway();
    }

    static OrchardRopeway withSlopes(int... slopes) {
        OrchardRopeway x = make();
        for (int segment = 0; segment < slopes.length; segment++) {
            x.setSlope(segment, slopes[segment]);
        }
        return x;
    }

    static OrchardRopeway withEverySlope(int slope) {
        return withSlopes(slope, slope, slope, slope, slope, slope);
    }

    /** Cabin 0 is at the place and goes up or down; there is no heat, as the imbalance was always 0. */
    static OrchardRopeway at(int place, boolean up) {
        OrchardRopeway x = make();
        int minutes = up ? place : 48 - place;
        if (minutes > 0) {
            x.pass(minutes);
        }
        return x;
    }

    static OrchardRopeway withTwentyPickers() {
        OrchardRopeway x = make();
        for (int i = 0; i < 20; i++) {
            x.addPicker(40 + i, i % 7, (i + 1) % 7);
        }
        return x;
    }

    /** With empty cabins the heat rises by 9 in each of the first 12 minutes: 99 at place 11, 108 at place 12. */
    static OrchardRopeway hot() {
        return withSlopes(0, 0, 0, 9, 9, 9);
    }

    /** After the fewest minutes in which empty cabins reach the heat: 11 at place 11 for 99, 12 at place 12 for 100. */
    static OrchardRopeway withHeat(int heat) {
        OrchardRopeway x = withEverySlope(0);
        while (x.heat() < heat) {
            heatUp(x, Math.min(9, heat - x.heat()));
        }
        return x;
    }

    /** In the first 24 minutes: cabin 1, empty, goes down a slope, and cabin 0 goes where there is none. */
    static void heatUp(OrchardRopeway x, int slope) {
        int ahead = x.nextSegment(1);
        for (int segment = 0; segment < 6; segment++) {
            int wanted = segment == ahead ? slope : 0;
            if (x.slope(segment) != wanted) {
                x.setSlope(segment, wanted);
            }
        }
        x.pass(1);
    }

    /** Heat 140 at place 7: the heaviest cabin goes down the steepest slope when the heat is 99. */
    static OrchardRopeway hottest() {
        OrchardRopeway x = withEverySlope(0);
        x.setCapacity(6);
        for (int i = 0; i < 6; i++) {
            x.addPicker(120, 5, 0);
        }
        for (int slope : new int[] {9, 9, 9, 9, 6, 8, 9}) {
            heatUp(x, slope);
        }
        return x;
    }

    /**
     * All slopes are 1, cabin 0 goes up from place 4 and cabin 1 down from place 20, with pickers of these weights
     * in them, for stations 6 and 0: so the imbalance is the difference.
     */
    static OrchardRopeway withLoads(int upwards, int downwards) {
        OrchardRopeway x = withEverySlope(1);
        letComeTogether(x, upwards, 1, 6);
        letComeTogether(x, downwards, 5, 0);
        x.pass(4);
        return x;
    }

    private static void letComeTogether(OrchardRopeway x, int weight, int from, int to) {
        int parts = (weight + 119) / 120;
        for (int i = 0; i < parts; i++) {
            x.addPicker((weight + i) / parts, from, to);
        }
    }

    static void letCome(OrchardRopeway x, int count, int from, int to) {
        for (int i = 0; i < count; i++) {
            x.addPicker(70, from, to);
        }
    }

    /** Picker 0 waits at station 6, picker 1 rides in cabin 0 and picker 2 in cabin 1; nobody has arrived. */
    static OrchardRopeway withRiders() {
        OrchardRopeway x = make();
        x.addPicker(60, 6, 5);
        x.addPicker(61, 1, 4);
        x.addPicker(62, 5, 2);
        x.pass(4);
        return x;
    }

    /** Makes the same ropeway each time, so that each look at it is one at an object with few calls behind it. */
    interface Made {
        OrchardRopeway make();
    }

    static void typeAll(OrchardRopeway x, String text) {
        for (int i = 0; i < text.length(); i++) {
            x.type(text.charAt(i));
        }
    }

    static int runText(OrchardRopeway x, String text) {
        typeAll(x, text);
        return x.run();
    }

    static String output(OrchardRopeway x, int length) {
        StringBuilder text = new StringBuilder();
        for (int i = 0; i < length; i++) {
            text.append(x.charAt(i));
        }
        return text.toString();
    }

    static String cabinLine(OrchardRopeway x, int cabin) {
        return output(x, x.writeCabin(cabin));
    }

    static String stationsLine(OrchardRopeway x) {
        return output(x, x.writeStations());
    }
}
