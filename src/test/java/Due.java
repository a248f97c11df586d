/** Counts the answers that are not as due; a test ends with end(). */
final class Due {
    private static int wrong = 0;
    private static int asked = 0;
    private static String test = "";
    private static int askedBefore = 0;

    private Due() {
    }

    /** What is asked from now on belongs to a test of this name. */
    static void begin(String name) {
        test = name + ": ";
        askedBefore = asked;
    }

    /** A test that asks nothing could never fail. */
    static void finish() {
        isTrue("it asks something", asked > askedBefore);
        test = "";
    }

    static void is(String call, long got, long want) {
        asked++;
        if (got != want) {
            wrong++;
            System.out.println(test + call + " answered " + got + ", due is " + want);
        }
    }

    static void isTrue(String what, boolean holds) {
        is(what, holds ? 1 : 0, 1);
    }

    static int wrong() {
        return wrong;
    }

    static void end() {
        System.out.println(asked + " answers, " + wrong + " not as due");
        if (wrong != 0 || asked == 0) {
            System.exit(1);
        }
    }
}
