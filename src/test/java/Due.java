/** What the tests say of answers: counts those that are due and prints those that are not. */
final class Due {
    interface Call {
        long answer();
    }

    private static int right = 0;
    private static int wrong = 0;

    private Due() {
    }

    static void same(String what, long got, long want) {
        if (got == want) {
            right++;
        } else {
            wrong++;
            System.out.println(what + " answered " + got + ", due is " + want);
        }
    }

    static void holds(String what, boolean is) {
        same(what, is ? 1 : 0, 1);
    }

    static void outOfBounds(String what, Call call) {
        thrown(what, call, IndexOutOfBoundsException.class);
    }

    static void badArgument(String what, Call call) {
        thrown(what, call, IllegalArgumentException.class);
    }

    static void badState(String what, Call call) {
        thrown(what, call, IllegalStateException.class);
    }

    /** The very class is due: a class below it would be what the machine throws. */
    private static void thrown(String what, Call call, Class<?> due) {
        String got;
        try {
            got = "answered " + call.answer();
        } catch (RuntimeException e) {
            if (e.getClass() == due) {
                right++;
                return;
            }
            got = "threw " + e;
        }
        wrong++;
        System.out.println(what + " " + got + ", due is " + due.getSimpleName());
    }

    static void end() {
        System.out.println(right + " answers as due, " + wrong + " not");
        if (wrong != 0 || right == 0) {
            System.exit(1);
        }
    }
}
