import java.util.concurrent.Callable;

/** What the tests share: calls with the answer or the exception that is due, and ways to a state. */
final class Due {
    private static int right = 0;
    private static int wrong = 0;
    private static String topic = "";

    private Due() {
    }

    /** What the next answers are about, told before each one that is wrong. */
    static void about(String text) {
        topic = text;
    }

    static int noted() {
        return right + wrong;
    }

    static void is(String what, long want, long got) {
        note(want == got, what + ": answered " + got + ", due is " + want);
    }

    static void isDouble(String what, double want, double got) {
        note(want == got, what + ": answered " + got + ", due is " + want);
    }

    static void isTrue(String what, boolean got) {
        note(got, what);
    }

    /** The exception must be of this very class, and thrown by the census itself, not by the machine. */
    static void fails(String what, Class<? extends Exception> want, Callable<?> call) {
        try {
            Object got = call.call();
            note(false, what + ": answered " + got + ", due is " + want.getSimpleName());
        } catch (Exception e) {
            note(e.getClass() == want && isThrownByCensus(e), what + ": threw " + e + ", due is " + want.getSimpleName());
        }
    }

    static boolean isThrownByCensus(Exception e) {
        StackTraceElement[] trace = e.getStackTrace();
        boolean isByZero = e.getMessage() != null && e.getMessage().contains("by zero");
        return trace.length > 0 && trace[0].getClassName().startsWith("BuildingCensus") && !isByZero;
    }

    static void note(boolean isRight, String text) {
        if (isRight) {
            right++;
        } else {
            wrong++;
            if (wrong <= 50) {
                System.out.println("WRONG " + topic + text);
            }
        }
    }

    static void end() {
        System.out.println(right + " answers as due, " + wrong + " not");
        if (wrong != 0) {
            System.exit(1);
        }
    }

    /** Takes a permit through all its stages, and returns what finish answers. */
    static int carry(BuildingCensus census, int kind, int one, int two, int three, int four) {
        int permit = open(census, kind, one, two, three, four);
        census.begin(permit);
        return census.finish(permit);
    }

    /** Applies for a permit and grants it. */
    static int open(BuildingCensus census, int kind, int one, int two, int three, int four) {
        int permit = census.apply(kind, one, two, three, four);
        census.grant(permit);
        return permit;
    }

    static void type(BuildingCensus census, String text) {
        for (int i = 0; i < text.length(); i++) {
            census.feed(text.charAt(i));
        }
    }

    /** A census with a building for each area. */
    static BuildingCensus census(int... areas) {
        BuildingCensus census = new BuildingCensus();
        for (int area : areas) {
            census.addBuilding(area);
        }
        return census;
    }
}
