/** Counts and tells wrong answers; a test ends with end(). */
final class Check {
    private static int wrong = 0;
    private static String sentence = "";

    private Check() {
    }

    /** The document's words that the checks from here on are about. */
    static void sentence(String words) {
        sentence = "'" + words + "': ";
    }

    /** The nearest and the farthest numbers that are less than the least or more than the most. */
    static int[] beside(int least, int most) {
        return new int[] {least - 1, most + 1, Integer.MIN_VALUE, Integer.MAX_VALUE};
    }

    static void is(String what, long due, long got) {
        if (due != got) {
            tell(what + " answered " + got + ", due is " + due);
        }
    }

    static void is(String what, String due, String got) {
        if (!due.equals(got)) {
            tell(what + " answered " + got + ", due is " + due);
        }
    }

    static void takes(String what, Runnable call) {
        try {
            call.run();
        } catch (RuntimeException e) {
            tell(what + " threw " + e + ", due is nothing");
        }
    }

    static void outOfBounds(String what, Runnable call) {
        throwsJust(what, IndexOutOfBoundsException.class, call);
    }

    static void badArgument(String what, Runnable call) {
        throwsJust(what, IllegalArgumentException.class, call);
    }

    static void badState(String what, Runnable call) {
        throwsJust(what, IllegalStateException.class, call);
    }

    static void end() {
        if (wrong > 0) {
            System.out.println(wrong + " answers are wrong");
            System.exit(1);
        }
    }

    static void throwsJust(String what, Class<?> due, Runnable call) {
        Class<?> got = null;
        try {
            call.run();
        } catch (RuntimeException e) {
            got = e.getClass();
        }
        // The very class: a subclass would be thrown by the machine, not by a throw statement.
        if (got != due) {
            tell(what + " threw " + (got == null ? "nothing" : got.getName()) + ", due is " + due.getName());
        }
    }

    private static void tell(String line) {
        wrong++;
        System.out.println(sentence + line);
    }
}
