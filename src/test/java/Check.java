import java.util.function.Supplier;

/** Counts the answers that are due and the ones that are not. */
final class Check {
    private static int asDue;
    private static int wrong;
    private static String place = "";

    private Check() {
    }

    /** Names the test that the next answers belong to. */
    static void begin(String test) {
        place = test + ": ";
    }

    static int answers() {
        return asDue + wrong;
    }

    static void due(String what, long got, long want) {
        record(got == want, what + " answered " + got + ", due is " + want);
    }

    /** Whether the very exception of this class is thrown, and none of a class below it. */
    static void dueThrow(String what, Class<? extends RuntimeException> want, Supplier<?> call) {
        dueTold(what, "throws " + want.getName(), call);
    }

    /** Whether a call answers so, told as a text: its value, or "throws" and the name of the exception. */
    static void dueTold(String what, String want, Supplier<?> call) {
        String got;
        try {
            got = "" + call.get();
        } catch (RuntimeException e) {
            got = "throws " + e.getClass().getName();
        }
        record(got.equals(want), what + " answered " + got + ", due is " + want);
    }

    static void record(boolean isAsDue, String complaint) {
        if (isAsDue) {
            asDue++;
        } else {
            wrong++;
            if (wrong <= 40) {
                System.out.println(place + complaint);
            }
        }
    }

    /** Ends a test: with code 1 if an answer was not as due, or if none was asked for. */
    static void finish() {
        System.out.println(asDue + " answers as due, " + wrong + " not");
        if (wrong > 0 || asDue == 0) {
            System.exit(1);
        }
    }
}
