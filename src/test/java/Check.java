import java.util.Objects;

/** Counts and prints the answers that are not the ones due. */
final class Check {
    private static int wrong = 0;
    private static String heading = "";

    private Check() {
    }

    /** What is found wrong from here on is printed below this heading. */
    static void under(String newHeading) {
        heading = newHeading;
    }

    static void due(String what, Object got, Object want) {
        if (!Objects.equals(got, want)) {
            fails(what + " answered " + got + ", due is " + want);
        }
    }

    static void fails(String what) {
        wrong++;
        if (!heading.isEmpty()) {
            System.out.println(heading);
            heading = "";
        }
        System.out.println(what);
    }

    static void badArgument(String what, CrossbarNet net, Runnable call) {
        refused(what, net, call, IllegalArgumentException.class);
    }

    static void badState(String what, CrossbarNet net, Runnable call) {
        refused(what, net, call, IllegalStateException.class);
    }

    private static void refused(String what, CrossbarNet net, Runnable call, Class<?> kind) {
        String before = Scene.stateOf(net);
        due(what + ": what it throws", thrownBy(call), kind);
        due(what + ": the state behind it", Scene.stateOf(net), before);
    }

    /** The arguments are told by the document; the state may forbid the call nevertheless. */
    static void goodArgument(String what, Runnable call) {
        Class<?> thrown = thrownBy(call);
        if (thrown != null && thrown != IllegalStateException.class) {
            fails(what + " throws " + thrown);
        }
    }

    private static Class<?> thrownBy(Runnable call) {
        try {
            call.run();
            return null;
        } catch (RuntimeException e) {
            return e.getClass();
        }
    }

    /** Asks a method of an office and a line for all that is no office or no line. */
    static void badPlaces(String what, CrossbarNet net, Place call) {
        int[][] places = {{-1, 0}, {3, 0}, {0, -1}, {0, 24}, {Integer.MIN_VALUE, 0}, {0, Integer.MAX_VALUE}};
        for (int[] place : places) {
            badArgument(what + " at " + place[0] + ", " + place[1], net, () -> call.at(place[0], place[1]));
        }
    }

    static void finish() {
        if (wrong != 0) {
            System.out.println(wrong + " answers are not as due");
            System.exit(1);
        }
    }

    interface Place {
        void at(int office, int line);
    }
}
