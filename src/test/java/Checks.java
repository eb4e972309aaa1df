/** Counts answers that are not the ones that are due, and prints them. */
final class Checks {
    interface Call {
        Object answer();
    }

    private static final int MOST_PRINTED = 40;

    private final String name;
    private String subject;
    private int made = 0;
    private int wrong = 0;

    Checks(String name) {
        this.name = name;
        this.subject = name;
    }

    /** What the answers that are looked at from now on belong to; it stands before each wrong one. */
    void about(String newSubject) {
        subject = newSubject;
    }

    int made() {
        return made;
    }

    void due(String call, Object got, Object want) {
        made++;
        if (!want.equals(got)) {
            tell(call + " answered " + got + ", due is " + want);
        }
    }

    /** The class must be exactly the one that is due: a subclass would come from the machine. */
    void refused(String call, Class<? extends RuntimeException> want, Call made) {
        due(call, outcome(made), "throws " + want.getName());
    }

    static Object outcome(Call call) {
        try {
            return call.answer();
        } catch (RuntimeException e) {
            return "throws " + e.getClass().getName();
        }
    }

    void tell(String text) {
        wrong++;
        if (wrong <= MOST_PRINTED) {
            System.out.println(subject + ": " + text);
        }
    }

    boolean hasFailed() {
        return wrong > 0;
    }

    void end() {
        System.out.println(name + ": " + made + " answers looked at, " + wrong + " not as due");
        if (wrong > 0 || made == 0) {
            System.exit(1);
        }
    }
}
