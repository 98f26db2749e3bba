import java.util.function.Supplier;
import java.util.function.ToLongFunction;

/** What the tests say of answers: counts those that are due and prints those that are not, with the sentence. */
final class Due {
    private static int right = 0;
    private static int wrong = 0;
    private static String sentence = "";
    private static int rightBefore = 0;

    private Due() {
    }

    /**
     * All answers from here on are due by this sentence (or this part of one), told as it stands in shared/DOC.md;
     * SentencesTest looks whether it stands there, and whether each sentence there has its test.
     */
    static void by(String words) {
        endOfSentence();
        sentence = words;
        rightBefore = right;
    }

    private static void endOfSentence() {
        if (!sentence.isEmpty() && right == rightBefore) {
            refuse("no answer is right of those that are due");
        }
    }

    private static void refuse(String what) {
        wrong++;
        System.out.println(sentence.isEmpty() ? what : what + "\n    by: " + sentence);
    }

    static void same(String what, long got, long want) {
        if (got == want) {
            right++;
        } else {
            refuse(what + " answered " + got + ", due is " + want);
        }
    }

    static void holds(String what, boolean is) {
        if (is) {
            right++;
        } else {
            refuse(what + " does not hold");
        }
    }

    static void outOfBounds(String what, Supplier<RescueBench> given, ToLongFunction<RescueBench> call) {
        refused(what, given, call, IndexOutOfBoundsException.class);
    }

    static void badArgument(String what, Supplier<RescueBench> given, ToLongFunction<RescueBench> call) {
        refused(what, given, call, IllegalArgumentException.class);
    }

    static void badState(String what, Supplier<RescueBench> given, ToLongFunction<RescueBench> call) {
        refused(what, given, call, IllegalStateException.class);
    }

    /** The very class is due, since a class below it would be what the machine throws; and that nothing is done. */
    private static void refused(String what, Supplier<RescueBench> given, ToLongFunction<RescueBench> call,
            Class<?> due) {
        RescueBench x = given.get();
        try {
            refuse(what + " answered " + call.applyAsLong(x) + ", due is " + due.getSimpleName());
        } catch (RuntimeException e) {
            if (e.getClass() == due) {
                right++;
            } else {
                refuse(what + " threw " + e + ", due is " + due.getSimpleName());
            }
        }
        unchanged(what, x, given.get());
    }

    /** An answer of a call that does nothing else: the bench is then as one that was not asked. */
    static void only(String what, Supplier<RescueBench> given, ToLongFunction<RescueBench> call, long want) {
        RescueBench x = given.get();
        same(what, call.applyAsLong(x), want);
        unchanged(what, x, given.get());
    }

    private static void unchanged(String what, RescueBench x, RescueBench twin) {
        String got = Picture.of(x);
        String want = Picture.of(twin);
        if (got.equals(want)) {
            right++;
        } else {
            refuse(what + " does something:\n    " + got + "\n    " + want);
        }
    }

    static void end() {
        by("");
        System.out.println(right + " answers as due, " + wrong + " not");
        if (wrong != 0 || right == 0) {
            System.exit(1);
        }
    }
}
