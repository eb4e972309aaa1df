import java.io.IOException;
import java.lang.reflect.Constructor;
import java.lang.reflect.Field;
import java.lang.reflect.Method;
import java.lang.reflect.Modifier;
import java.nio.file.Files;
import java.nio.file.Path;
import java.util.Arrays;
import java.util.Set;
import java.util.TreeSet;
import java.util.regex.Matcher;
import java.util.regex.Pattern;

/** The face of the class is the document's, and its source keeps to what of LANGUAGE.md can be looked up. */
public final class LanguageTest {
    private static final String[] FACE = {
        "int addPicker(int,int,int)IndexOutOfBoundsException IllegalArgumentException IllegalStateException",
        "int removePicker(int)NoSuchElementException IllegalStateException",
        "int setSlope(int,int)IndexOutOfBoundsException IllegalArgumentException",
        "boolean turn()IllegalStateException UnsupportedOperationException",
        "int setCapacity(int)IllegalArgumentException IllegalStateException",
        "int pass(int)IllegalArgumentException",
        "int time()",
        "int slope(int)IndexOutOfBoundsException",
        "int capacity()",
        "int imbalance()",
        "int heat()",
        "boolean isBlocked()",
        "int blockedMinutes()",
        "int blockedMinutesByPassing()",
        "int place(int)IndexOutOfBoundsException",
        "boolean goesUp(int)IndexOutOfBoundsException",
        "int station(int)IndexOutOfBoundsException NoSuchElementException",
        "int nextSegment(int)IndexOutOfBoundsException",
        "int cabinWeight(int)IndexOutOfBoundsException",
        "int riders(int)IndexOutOfBoundsException",
        "int riderAt(int,int)IndexOutOfBoundsException NoSuchElementException",
        "int unitsUntil(int,int)IndexOutOfBoundsException",
        "int unitsUntilByMoving(int,int)IndexOutOfBoundsException",
        "int pickers()",
        "boolean isPresent(int)",
        "int weight(int)NoSuchElementException",
        "int destination(int)NoSuchElementException",
        "int cabinOf(int)NoSuchElementException",
        "int waiting(int)IndexOutOfBoundsException",
        "int waitingAt(int,int)IndexOutOfBoundsException NoSuchElementException",
        "int waitingStations()",
        "int busiestStation()NoSuchElementException",
        "int pickerByWeight(int)NoSuchElementException",
        "int came()",
        "int cameByParts()",
        "int arrived()",
        "int meetings()",
        "long energy()",
        "double meanJourney()ArithmeticException",
        "float occupancy()",
        "boolean isConsistent()",
        "int writeCabin(int)IndexOutOfBoundsException",
        "int writeStations()",
        "char charAt(int)IndexOutOfBoundsException",
        "int type(char)IllegalStateException",
        "int run()IllegalArgumentException UnsupportedOperationException",
        "int errorPosition()NoSuchElementException",
        "int failedCommand()NoSuchElementException",
        "int undo()IllegalStateException",
        "int save()",
        "int restore()IllegalStateException",
    };

    private static final String[] FORBIDDEN = {
        "->", "::", "\\bcatch\\b", "\\btry\\b", "\\bfinally\\b", "\\bsynchronized\\b", "\\bassert\\b", "\\bstatic \\{",
        "\\bpackage\\b", "\\bSystem\\.(?!arraycopy)", "\\bThread\\b", "\\w+Exact\\(", "\" \\+|\\+ \"",
        "\\bString\\.", "\\bObject\\b", "\\bRandom\\b", "\\bjava\\.(?!util\\.NoSuchElementException;)",
    };

    private static final int LONGEST_METHOD = 60;
    private static final int MOST_CLASSES = 12;
    private static final int MOST_FIELDS = 20;

    private static final Checks CHECKS = new Checks("LanguageTest");

    private LanguageTest() {
    }

    public static void main(String[] args) throws IOException {
        lookAtFace();
        lookAtClasses();
        lookAtSource(Files.readString(Path.of(args.length > 0 ? args[0] : "src/main/java/OrchardRopeway.java")));
        CHECKS.end();
    }

    private static void lookAtFace() {
        Set<String> seen = new TreeSet<>();
        Set<String> names = new TreeSet<>();
        for (Method method : OrchardRopeway.class.getDeclaredMethods()) {
            if (!Modifier.isPrivate(method.getModifiers())) {
                seen.add(describe(method));
                names.add(method.getName());
                CHECKS.due("modifiers of " + method.getName(), Modifier.toString(method.getModifiers()), "public");
            }
        }
        CHECKS.due("the face", seen, new TreeSet<>(Arrays.asList(FACE)));
        for (Class<?> type : allClasses()) {
            for (Method method : type.getDeclaredMethods()) {
                boolean isFace = type == OrchardRopeway.class && Modifier.isPublic(method.getModifiers());
                CHECKS.due(type + " bears the name " + method.getName(),
                        !isFace && names.contains(method.getName()), false);
            }
        }
        CHECKS.due("public and final", Modifier.toString(OrchardRopeway.class.getModifiers()), "public final");
        Constructor<?>[] constructors = OrchardRopeway.class.getDeclaredConstructors();
        CHECKS.due("constructors", constructors.length, 1);
        CHECKS.due("the constructor", constructors[0].toString(), "public OrchardRopeway()");
    }

    private static String describe(Method method) {
        StringBuilder text = new StringBuilder(method.getReturnType() + " " + method.getName() + "(");
        String comma = "";
        for (Class<?> type : method.getParameterTypes()) {
            text.append(comma).append(type);
            comma = ",";
        }
        text.append(')');
        String blank = "";
        for (Class<?> type : method.getExceptionTypes()) {
            text.append(blank).append(type.getSimpleName());
            blank = " ";
        }
        return text.toString();
    }

    private static Class<?>[] allClasses() {
        Class<?>[] inner = OrchardRopeway.class.getDeclaredClasses();
        Class<?>[] all = Arrays.copyOf(inner, inner.length + 1);
        all[inner.length] = OrchardRopeway.class;
        return all;
    }

    private static void lookAtClasses() {
        CHECKS.due("few classes", allClasses().length <= MOST_CLASSES, true);
        for (Class<?> type : allClasses()) {
            int fields = 0;
            for (Field field : type.getDeclaredFields()) {
                int modifiers = field.getModifiers();
                if (Modifier.isStatic(modifiers)) {
                    CHECKS.due(field + " is final", Modifier.isFinal(modifiers), true);
                } else {
                    fields++;
                }
                boolean isOuter = type == OrchardRopeway.class;
                CHECKS.due(field + " is hidden", !isOuter || Modifier.isPrivate(modifiers), true);
            }
            CHECKS.due("few fields in " + type, fields <= MOST_FIELDS, true);
        }
    }

    private static void lookAtSource(String source) {
        for (String forbidden : FORBIDDEN) {
            Matcher matcher = Pattern.compile(forbidden).matcher(source);
            CHECKS.due("use of " + forbidden, matcher.find(), false);
        }
        for (int i = 0; i < source.length(); i++) {
            if (source.charAt(i) > 126) {
                CHECKS.tell("character " + (int) source.charAt(i) + " in the source");
            }
        }
        lookAtLengths(source.split("\n"));
    }

    /** A method ends with the next line that closes a brace at the depth of its first line. */
    private static void lookAtLengths(String[] lines) {
        Pattern head = Pattern.compile("^( +)[a-zA-Z].*\\) *(throws .*)?\\{$");
        for (int i = 0; i < lines.length; i++) {
            Matcher matcher = head.matcher(lines[i]);
            if (matcher.matches()) {
                int end = i;
                while (end < lines.length && !lines[end].equals(matcher.group(1) + "}")) {
                    end++;
                }
                CHECKS.due("short enough: " + lines[i].trim(), end - i < LONGEST_METHOD, true);
            }
        }
    }
}
