/** The edges that the document names for the output line and for programs, sentence by sentence. */
public final class TextEdgesTest extends TestBase {
    /** No program has this character anywhere. */
    private static final char NOWHERE = '#';

    /** A bar stands behind each beginning that is a program, too. */
    private static final String[] PROGRAMS_WITH_ENDS = {
        "picker 7 0>6|", "picker 40 0>6|", "picker 120 6>0|", "remove 0|1|2|", "slope 5=9|", "turn|", "capacity 6|",
        "wait| 2|4|0|", "turn|;turn|;wait|;wait| 1|;capacity 1|;slope 0=0|;remove 1|;wait|",
    };

    private static final String TWELVE_WAITS = "wait;wait;wait;wait;wait;wait;wait;wait;wait;wait;wait;wait";
    private static final String SIXTY_SIGNS = "capacity 1;wait;wait;wait;wait;wait;wait;wait;wait;wait;wait";

    private TextEdgesTest() {
    }

    public static void main(String[] args) {
        outputLine();
        buffer();
        grammar();
        commands();
        failures();
        records();
        CHECKS.end();
    }

    private static void outputLine() {
        sentence("for example \"0@8+ 3>4 1>6\"", TextEdgesTest::exampleOfCabin);
        sentence("for each picker in it, in the order in which they boarded", TextEdgesTest::emptyAndFullCabins);
        sentence("for example \"0/2/1/2/0/5/0/2/0/2/3/2/0\"", TextEdgesTest::exampleOfStations);
        sentence("for each station the number of pickers who wait there", TextEdgesTest::emptyAndFullStations);
        sentence("which replaces its old content", TextEdgesTest::replacedLines);
        sentence("the output line, which is initially empty", TextEdgesTest::emptyLine);
        sentence("Promise 45: Throws IndexOutOfBoundsException if the index is negative or not less than the length",
                TextEdgesTest::indices);
        sentence("Promise 43: Throws IndexOutOfBoundsException if there is no such cabin", TextEdgesTest::noCabins);
    }

    private static void exampleOfCabin() {
        OrchardRopeway x = make();
        x.addPicker(70, 6, 0);
        x.addPicker(70, 2, 6);
        x.addPicker(70, 6, 0);
        x.addPicker(70, 1, 4);
        x.pass(8);
        due("length", x.writeCabin(0), 12);
        due("line", output(x, 12), "0@8+ 3>4 1>6");
    }

    private static void emptyAndFullCabins() {
        due("cabin 0 of a new ropeway", cabinLine(make(), 0), "0@0+");
        due("cabin 1 of a new ropeway", cabinLine(make(), 1), "1@24-");
        due("places of one digit", cabinLine(at(9, true), 0), "0@9+");
        due("places of two digits", cabinLine(at(10, true), 0), "0@10+");
        due("going down", cabinLine(at(9, false), 0), "0@9-");
        due("cabin 1 going up", cabinLine(at(9, false), 1), "1@15+");

        OrchardRopeway x = withEverySlope(0);
        x.setCapacity(6);
        for (int number = 0; number < 120; number++) {
            x.addPicker(70, 6, 0);
            if (number != 0 && number != 9 && number != 10 && number != 99 && number != 100 && number != 119) {
                x.removePicker(number);
            }
        }
        x.pass(24);
        due("the length of a full cabin", x.writeCabin(0), 35);
        due("a full cabin", output(x, 35), "0@24- 0>0 9>0 10>0 99>0 100>0 119>0");
        due("the length of the empty cabin", x.writeCabin(1), 4);
        due("the empty cabin", output(x, 4), "1@0+");
    }

    private static void exampleOfStations() {
        OrchardRopeway x = make();
        x.addPicker(70, 1, 2);
        letCome(x, 3, 5, 0);
        x.setSlope(2, 5);
        due("length", x.writeStations(), 25);
        due("line", output(x, 25), "0/2/1/2/0/5/0/2/0/2/3/2/0");
    }

    private static void emptyAndFullStations() {
        due("nobody, no slopes", stationsLine(withEverySlope(0)), "0/0/0/0/0/0/0/0/0/0/0/0/0");
        due("nobody, all slopes", stationsLine(withEverySlope(9)), "0/9/0/9/0/9/0/9/0/9/0/9/0");
        String[] full = {"20/2/0/2/0/2/0/2/0/2/0/2/0", "0/2/20/2/0/2/0/2/0/2/0/2/0", "0/2/0/2/20/2/0/2/0/2/0/2/0",
            "0/2/0/2/0/2/20/2/0/2/0/2/0", "0/2/0/2/0/2/0/2/20/2/0/2/0", "0/2/0/2/0/2/0/2/0/2/20/2/0",
            "0/2/0/2/0/2/0/2/0/2/0/2/20"};
        for (int station = 0; station < 7; station++) {
            OrchardRopeway x = make();
            letCome(x, 20, station, (station + 1) % 7);
            due("length", x.writeStations(), 26);
            due("twenty at " + station, output(x, 26), full[station]);
        }
        OrchardRopeway y = make();
        letCome(y, 10, 0, 6);
        letCome(y, 9, 6, 0);
        due("ten and nine", stationsLine(y), "10/2/0/2/0/2/0/2/0/2/0/2/9");
        due("riders do not wait", stationsLine(withRiders()), "0/2/0/2/0/2/0/2/0/2/0/2/1");
    }

    private static void replacedLines() {
        OrchardRopeway x = make();
        due("a long line", x.writeStations(), 25);
        due("a short line", x.writeCabin(0), 4);
        due("the short line", output(x, 4), "0@0+");
        refused("nothing is left of the long line", INDEX, () -> x.charAt(4));
        due("a long line again", x.writeStations(), 25);
        due("nothing is left of the short line", output(x, 25), "0/2/0/2/0/2/0/2/0/2/0/2/0");
        x.addPicker(70, 0, 1);
        due("a written line stays as it was", x.charAt(0), '0');
        x.writeStations();
        due("until it is written again", x.charAt(0), '1');
    }

    private static void emptyLine() {
        OrchardRopeway x = make();
        for (int index : new int[] {Integer.MIN_VALUE, -1, 0, 1, Integer.MAX_VALUE}) {
            refused("charAt " + index, INDEX, () -> x.charAt(index));
        }
    }

    private static void indices() {
        OrchardRopeway x = make();
        x.writeCabin(1);
        due("the first", x.charAt(0), '1');
        due("the last", x.charAt(4), '-');
        for (int index : new int[] {Integer.MIN_VALUE, -1, 5, 6, Integer.MAX_VALUE}) {
            refused("charAt " + index, INDEX, () -> x.charAt(index));
        }
        x.writeStations();
        due("the last of the stations", x.charAt(24), '0');
        refused("behind the stations", INDEX, () -> x.charAt(25));
    }

    private static void noCabins() {
        OrchardRopeway x = make();
        x.writeCabin(1);
        for (int none : NO_CABINS) {
            refused("writeCabin " + none, INDEX, () -> x.writeCabin(none));
        }
        due("the line stays", output(x, 5), "1@24-");
        refused("and its length", INDEX, () -> x.charAt(5));
    }

    private static void buffer() {
        sentence("Promise 46: Throws IllegalStateException if the buffer contains 60 characters",
                TextEdgesTest::sixtyCharacters);
        sentence("Promise 46: any character", TextEdgesTest::anyCharacter);
        sentence("Promise 47: The buffer is empty afterwards in every case", TextEdgesTest::emptyAfterwards);
    }

    private static void sixtyCharacters() {
        OrchardRopeway x = make();
        for (int i = 0; i < 60; i++) {
            due("character " + (i + 1), x.type(SIXTY_SIGNS.charAt(i)), i + 1);
        }
        for (char sign : new char[] {'t', ';', 0, 65535}) {
            refused("character 61", STATE, () -> x.type(sign));
        }
        due("the buffer is as it was", x.run(), 11);
        due("capacity", x.capacity(), 1);
        due("time", x.time(), 10);
        due("the first character again", x.type('t'), 1);
    }

    private static void anyCharacter() {
        OrchardRopeway x = make();
        for (int sign : new int[] {0, 1, 10, 127, 128, 255, 256, 1633, 55296, 65535}) {
            x.type('t');
            due("type " + sign, x.type((char) sign), 2);
            refused("run", ARGUMENT, x::run);
            due("errorPosition of " + sign, x.errorPosition(), 1);
        }
        due("a program still runs", runText(x, "wait"), 1);
    }

    private static void emptyAfterwards() {
        OrchardRopeway x = make();
        due("a program", runText(x, TWELVE_WAITS), 12);
        due("after a program", x.type('w'), 1);
        refused("a text that is none", ARGUMENT, x::run);
        due("after a text that is none", x.type('t'), 1);
        typeAll(x, "urn;turn");
        x.pass(12);
        refused("a command that fails", UNSUPPORTED, x::run);
        due("after a command that fails", x.type('w'), 1);
        typeAll(x, "ait");
        due("the next program is read alone", x.run(), 1);
        refused("the empty buffer", ARGUMENT, x::run);
        due("after the empty text", x.type('w'), 1);
    }

    private static void grammar() {
        sentence("or the length of the text if the text is a proper prefix of a program", TextEdgesTest::beginnings);
        sentence("is the index of the first character at which no program can continue", TextEdgesTest::wrongCharacters);
        sentence("number = digit [ digit [ digit ] ]", TextEdgesTest::digitsOfNumbers);
        sentence("digit \">\" digit, digit \"=\" digit, \"capacity \" digit", TextEdgesTest::singleDigits);
        sentence("program = command { \";\" command }", TextEdgesTest::fewAndManyCommands);
        sentence("\"wait\" without a number means one minute", TextEdgesTest::waitWithoutNumber);
        sentence("the first character at which no program can continue, of all characters behind all beginnings",
                TextEdgesTest::everyCharacterBehind);
    }

    /** The text is no program; its error position is due. */
    private static void dueError(String text, int position) {
        OrchardRopeway x = at(4, true);
        typeAll(x, text);
        refused("run of \"" + text + "\"", ARGUMENT, x::run);
        due("errorPosition of \"" + text + "\"", x.errorPosition(), position);
        refused("failedCommand of \"" + text + "\"", ELEMENT, x::failedCommand);
        due("nothing is executed by \"" + text + "\"", x.time(), 4);
    }

    /** The text is a program, whether its commands fail or not. */
    private static void dueProgram(String text) {
        OrchardRopeway x = at(4, true);
        typeAll(x, text);
        boolean isRefused = Checks.outcome(x::run).equals("throws " + ARGUMENT.getName());
        due("\"" + text + "\" is no program", isRefused, false);
        refused("errorPosition of \"" + text + "\"", ELEMENT, x::errorPosition);
    }

    private static void beginnings() {
        dueError("", 0);
        for (String marked : PROGRAMS_WITH_ENDS) {
            String text = marked.replace("|", "");
            int length = 0;
            for (int i = 0; i < marked.length(); i++) {
                if (marked.charAt(i) == '|') {
                    dueProgram(text.substring(0, length));
                } else {
                    length++;
                    if (marked.charAt(i + 1) != '|') {
                        dueError(text.substring(0, length), length);
                    }
                }
            }
        }
        dueError(TWELVE_WAITS + ";", 60);
    }

    private static void wrongCharacters() {
        for (String marked : PROGRAMS_WITH_ENDS) {
            String text = marked.replace("|", "");
            for (int i = 0; i <= text.length() && i < 60; i++) {
                dueError(text.substring(0, i) + NOWHERE, i);
                if (i < text.length()) {
                    dueError(text.substring(0, i) + NOWHERE + text.substring(i + 1), i);
                }
            }
        }
        dueError(TWELVE_WAITS + "t", 59);
        dueError(TWELVE_WAITS.substring(0, 55) + "waix", 58);
        dueError("Wait", 0);
        dueError(" wait", 0);
        dueError("wait;;wait", 5);
        dueError("wait; wait", 5);
        dueError("wait ;wait", 5);
        dueError("waitwait", 4);
        dueError("wait\n", 4);
        dueError("turn 1", 4);
        dueError("picker 50 1 > 2", 11);
        dueError("slope 1= 2", 8);
        dueError("remove -1", 7);
        dueError("remove +1", 7);
        dueError("picker 50  1>2", 10);
    }

    private static void digitsOfNumbers() {
        dueError("wait ;", 5);
        dueError("wait /", 5);
        dueError("wait :", 5);
        dueProgram("wait 0");
        dueProgram("wait 9");
        dueProgram("wait 00");
        dueProgram("wait 99");
        dueProgram("wait 000");
        dueProgram("wait 999");
        dueError("wait 0000", 8);
        dueError("wait 2400", 8);
        dueError("remove ;", 7);
        dueProgram("remove 9");
        dueProgram("remove 99");
        dueProgram("remove 999");
        dueError("remove 9999", 10);
        dueError("picker  1>2", 7);
        dueProgram("picker 9 1>2");
        dueProgram("picker 99 1>2");
        dueProgram("picker 999 1>2");
        dueError("picker 0999 1>2", 10);
        dueError("picker 50/1>2", 9);
    }

    private static void singleDigits() {
        dueProgram("picker 50 0>9");
        dueProgram("picker 50 9>0");
        dueError("picker 50 10>2", 11);
        dueError("picker 50 1>20", 13);
        dueError("picker 50 >2", 10);
        dueError("picker 50 1>;", 12);
        dueError("picker 50 :>2", 10);
        dueError("picker 50 1>/", 12);
        dueProgram("slope 0=0");
        dueProgram("slope 9=9");
        dueError("slope 10=2", 7);
        dueError("slope 1=20", 9);
        dueError("slope =2", 6);
        dueError("slope 1=;", 8);
        dueProgram("capacity 0");
        dueProgram("capacity 9");
        dueError("capacity 10", 10);
        dueError("capacity ;", 9);
    }

    private static void fewAndManyCommands() {
        due("one", runText(make(), "wait"), 1);
        due("two", runText(make(), "wait;wait"), 2);
        OrchardRopeway x = make();
        due("twelve, as many as have room", runText(x, TWELVE_WAITS), 12);
        due("time", x.time(), 12);
        due("sixty characters", runText(make(), SIXTY_SIGNS), 11);
        OrchardRopeway y = make();
        due("one of each", runText(y, "picker 40 6>0;slope 5=9;capacity 6;wait 4;turn;remove 0"), 6);
        due("the picker has gone", y.pickers(), 0);
        due("slope(5)", y.slope(5), 9);
        due("capacity", y.capacity(), 6);
        due("goesUp(0)", y.goesUp(0), false);
    }

    private static void waitWithoutNumber() {
        OrchardRopeway x = make();
        due("wait", runText(x, "wait"), 1);
        due("time 1", x.time(), 1);
        due("wait 1", runText(x, "wait 1"), 1);
        due("time 2", x.time(), 2);
        due("wait behind wait 5", runText(x, "wait 5;wait"), 2);
        due("time 8", x.time(), 8);
        due("wait 5 behind wait", runText(x, "wait;wait 5"), 2);
        due("time 14", x.time(), 14);
    }

    private static void everyCharacterBehind() {
        for (String marked : PROGRAMS_WITH_ENDS) {
            String text = marked.replace("|", "");
            for (int length = 0; length <= text.length(); length++) {
                for (int sign = 0; sign < 260; sign++) {
                    dueAsOfModel(text.substring(0, length) + (char) sign);
                }
            }
        }
    }

    private static void dueAsOfModel(String text) {
        OrchardRopeway x = make();
        Model model = new Model();
        for (int i = 0; i < text.length(); i++) {
            x.type(text.charAt(i));
            model.type(text.charAt(i));
        }
        due("run of \"" + text + "\"", Checks.outcome(x::run), Checks.outcome(model::run));
        due("errorPosition of \"" + text + "\"",
                Checks.outcome(x::errorPosition), Checks.outcome(model::errorPosition));
    }

    private static void commands() {
        sentence("The commands correspond to addPicker(weight, from, to)", TextEdgesTest::pickerCommands);
        sentence("The commands correspond to removePicker(picker)", TextEdgesTest::removeCommands);
        sentence("The commands correspond to setSlope(segment, slope)", TextEdgesTest::slopeCommands);
        sentence("The commands correspond to turn()", TextEdgesTest::turnCommands);
        sentence("The commands correspond to setCapacity(capacity)", TextEdgesTest::capacityCommands);
        sentence("The commands correspond to pass(minutes)", TextEdgesTest::waitCommands);
    }

    /** The program fails at this command, without a trace but the number of the command. */
    private static void dueFailure(Made made, String text, int command) {
        OrchardRopeway x = made.make();
        typeAll(x, text);
        refused("run of " + text, UNSUPPORTED, x::run);
        due("failedCommand of " + text, x.failedCommand(), command);
        due("differences by " + text, Portrait.difference(Portrait.ofState(made.make()), Portrait.ofState(x)), "");
    }

    private static void pickerCommands() {
        OrchardRopeway x = make();
        due("the lightest", runText(x, "picker 40 0>6"), 1);
        due("the heaviest", runText(x, "picker 120 6>0"), 1);
        due("with a digit 0 before", runText(x, "picker 040 0>1"), 1);
        due("weight(0)", x.weight(0), 40);
        due("weight(1)", x.weight(1), 120);
        due("weight(2)", x.weight(2), 40);
        due("destination(0)", x.destination(0), 6);
        due("waiting(6)", x.waiting(6), 1);
        for (String text : new String[] {"picker 39 0>1", "picker 121 0>1", "picker 0 0>1", "picker 999 0>1",
            "picker 50 7>0", "picker 50 0>7", "picker 50 9>9", "picker 50 0>0", "picker 50 6>6"}) {
            dueFailure(TestBase::make, text, 0);
        }
        dueFailure(TestBase::withTwentyPickers, "picker 50 0>1", 0);
        OrchardRopeway full = withTwentyPickers();
        due("in place of another", runText(full, "remove 0;picker 50 0>1"), 2);
        due("came", full.came(), 21);
        dueFailure(TestBase::withTwentyPickers, "remove 1;picker 50 0>1;picker 50 0>1", 2);
    }

    private static void removeCommands() {
        OrchardRopeway x = withTwentyPickers();
        due("remove 0", runText(x, "remove 0"), 1);
        due("remove 19", runText(x, "remove 19"), 1);
        due("remove 001", runText(x, "remove 001"), 1);
        due("pickers", x.pickers(), 17);
        dueFailure(TestBase::withTwentyPickers, "remove 20", 0);
        dueFailure(TestBase::withTwentyPickers, "remove 999", 0);
        dueFailure(TestBase::withTwentyPickers, "remove 0;remove 19;remove 0", 2);
        dueFailure(TestBase::withRiders, "remove 1", 0);
        dueFailure(TestBase::make, "remove 0", 0);
        due("one who comes before", runText(make(), "picker 50 0>1;remove 0"), 2);
    }

    private static void slopeCommands() {
        OrchardRopeway x = make();
        due("both ends", runText(x, "slope 0=0;slope 5=9"), 2);
        due("slope(0)", x.slope(0), 0);
        due("slope(5)", x.slope(5), 9);
        dueFailure(TestBase::make, "slope 6=0", 0);
        dueFailure(TestBase::make, "slope 5=1;slope 9=9", 1);
    }

    private static void turnCommands() {
        OrchardRopeway x = at(4, true);
        due("at station 1", runText(x, "turn"), 1);
        due("goesUp(0)", x.goesUp(0), false);
        due("twice", runText(x, "turn;turn"), 2);
        due("goesUp(0)", x.goesUp(0), false);
        dueFailure(TestBase::make, "turn", 0);
        dueFailure(() -> at(24, false), "turn", 0);
        dueFailure(() -> at(3, true), "turn", 0);
        due("from 3 to 4", runText(at(3, true), "wait;turn"), 2);
        dueFailure(() -> at(4, true), "turn;wait 4;turn", 2);
    }

    private static void capacityCommands() {
        OrchardRopeway x = make();
        due("the least", runText(x, "capacity 1"), 1);
        due("capacity 1", x.capacity(), 1);
        due("the most", runText(x, "capacity 6"), 1);
        due("capacity 6", x.capacity(), 6);
        dueFailure(TestBase::make, "capacity 0", 0);
        dueFailure(TestBase::make, "capacity 7", 0);
        dueFailure(TestBase::make, "capacity 6;capacity 9", 1);
        dueFailure(TextEdgesTest::withTwoRiders, "capacity 1", 0);
        due("as many as ride", runText(withTwoRiders(), "capacity 2"), 1);
    }

    private static OrchardRopeway withTwoRiders() {
        OrchardRopeway x = withEverySlope(0);
        letCome(x, 2, 5, 0);
        x.pass(4);
        return x;
    }

    private static void waitCommands() {
        OrchardRopeway x = make();
        due("the least", runText(x, "wait 1"), 1);
        due("time 1", x.time(), 1);
        due("the most", runText(x, "wait 240"), 1);
        due("time 241", x.time(), 241);
        due("with digits 0 before", runText(x, "wait 001"), 1);
        due("time 242", x.time(), 242);
        for (String text : new String[] {"wait 0", "wait 00", "wait 000", "wait 241", "wait 999"}) {
            dueFailure(TestBase::make, text, 0);
        }
        dueFailure(TestBase::make, "wait 240;wait 240;wait 0", 2);
    }

    private static void failures() {
        sentence("either all of them or, if one of them fails, none", TextEdgesTest::allOrNone);
        sentence("the number of this command, counted from 0, is recorded", TextEdgesTest::failedNumbers);
        sentence("Throws IllegalArgumentException if the text is not a program, also behind commands that fail", () -> {
            dueError("capacity 0;turn;x", 16);
            dueError("wait 0;", 7);
            dueError("wait 5;picker 50 1>2;wait 2400", 29);
        });
    }

    private static void allOrNone() {
        dueFailure(TestBase::withRiders, "picker 50 1>2;slope 0=9;capacity 6;wait 240;remove 0;turn", 4);
        dueFailure(TestBase::withRiders, "remove 0;picker 50 1>2;turn;wait 4;turn", 4);
        dueFailure(TestBase::withRiders, "turn;wait 24;capacity 0", 2);
        dueFailure(TestBase::hot, "wait 12;turn;slope 3=1;wait 240;remove 0", 4);
        OrchardRopeway x = withRiders();
        typeAll(x, "picker 50 1>2;capacity 0");
        refused("run", UNSUPPORTED, x::run);
        due("the same without the wrong command", runText(x, "remove 0;picker 50 1>2;turn;wait 4"), 4);
        due("place", x.place(0), 0);
        due("pickers", x.pickers(), 3);
        due("no number is lost by the program that failed", x.isPresent(3), true);
    }

    private static void failedNumbers() {
        dueFailure(TestBase::make, "turn;wait;wait", 0);
        dueFailure(TestBase::make, "wait;turn;wait;turn", 1);
        dueFailure(TestBase::make, TWELVE_WAITS.substring(0, 55) + "turn", 11);
        dueFailure(() -> at(1, true), "turn;turn;turn;turn;turn;turn;turn;turn;turn;turn;turn;turn", 0);
    }

    private static void records() {
        sentence("Promise 48: Throws NoSuchElementException if there was no such text", TextEdgesTest::noErrorPosition);
        sentence("Promise 48: the recorded error position of the latest text that was not a program",
                TextEdgesTest::latestErrorPosition);
        sentence("Promise 49: Throws NoSuchElementException if no command failed", TextEdgesTest::noFailedCommand);
        sentence("Promise 49: the recorded number of the latest command that failed in a program",
                TextEdgesTest::latestFailedCommand);
    }

    private static void noErrorPosition() {
        OrchardRopeway x = make();
        refused("a new ropeway", ELEMENT, x::errorPosition);
        typeAll(x, "x");
        refused("a text that has not been run", ELEMENT, x::errorPosition);
        OrchardRopeway y = make();
        runText(y, "wait");
        refused("after a program", ELEMENT, y::errorPosition);
        typeAll(y, "turn");
        refused("run", UNSUPPORTED, y::run);
        refused("after a command that failed", ELEMENT, y::errorPosition);
    }

    private static void latestErrorPosition() {
        OrchardRopeway x = make();
        int[] positions = {4, 60, 0, 59, 3};
        String[] texts = {"waits", TWELVE_WAITS + ";", "", TWELVE_WAITS + "x", "tur"};
        for (int i = 0; i < texts.length; i++) {
            typeAll(x, texts[i]);
            refused("run of " + texts[i], ARGUMENT, x::run);
            due("errorPosition of " + texts[i], x.errorPosition(), positions[i]);
            runText(x, "wait 24");
            typeAll(x, "turn");
            refused("turn at an end", UNSUPPORTED, x::run);
            due("errorPosition after programs", x.errorPosition(), positions[i]);
        }
    }

    private static void noFailedCommand() {
        OrchardRopeway x = make();
        refused("a new ropeway", ELEMENT, x::failedCommand);
        refused("turn", UNSUPPORTED, x::turn);
        refused("after a call that failed", ELEMENT, x::failedCommand);
        runText(x, "wait");
        refused("after a program", ELEMENT, x::failedCommand);
        refused("run of nothing", ARGUMENT, x::run);
        refused("after a text that is no program", ELEMENT, x::failedCommand);
    }

    private static void latestFailedCommand() {
        OrchardRopeway x = make();
        int[] commands = {0, 2, 11, 1, 0};
        String[] texts = {"turn", "wait;wait;turn", TWELVE_WAITS.substring(0, 55) + "turn", "wait 24;turn", "wait 0"};
        for (int i = 0; i < texts.length; i++) {
            typeAll(x, texts[i]);
            refused("run of " + texts[i], UNSUPPORTED, x::run);
            due("failedCommand of " + texts[i], x.failedCommand(), commands[i]);
            runText(x, "wait 48");
            refused("run of nothing", ARGUMENT, x::run);
            due("failedCommand after other texts", x.failedCommand(), commands[i]);
        }
    }
}
