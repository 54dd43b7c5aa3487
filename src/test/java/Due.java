/** Counts the answers that are not as due. */
final class Due {
    interface Call {
        long answer();
    }

    private static int wrong = 0;
    /** What is told ahead of each wrong answer. */
    private static String place = "";

    private Due() {
    }

    static void same(String what, long got, long want) {
        if (got != want) {
            fail(what + " answered " + got + ", due is " + want);
        }
    }

    static void sameDouble(String what, double got, double want) {
        if (Double.doubleToLongBits(got) != Double.doubleToLongBits(want)) {
            fail(what + " answered " + got + ", due is " + want);
        }
    }

    /** The call throws exactly this exception, and nothing that the digest tells is changed behind it. */
    static void refused(String what, LevelLoops x, Class<?> exception, Call call) {
        long before = x.digest();
        try {
            fail(what + " answered " + call.answer() + ", due is " + exception.getSimpleName());
        } catch (RuntimeException e) {
            if (e.getClass() != exception) {
                fail(what + " threw " + e + ", due is " + exception.getSimpleName());
            }
        }
        same(what + ": digest behind it", x.digest(), before);
    }

    static void outOfBounds(String what, LevelLoops x, Call call) {
        refused(what, x, IndexOutOfBoundsException.class, call);
    }

    static void badArgument(String what, LevelLoops x, Call call) {
        refused(what, x, IllegalArgumentException.class, call);
    }

    static void badState(String what, LevelLoops x, Call call) {
        refused(what, x, IllegalStateException.class, call);
    }

    /** The properties from 0 on. */
    static void row(String what, java.util.function.IntUnaryOperator property, int... want) {
        for (int i = 0; i < want.length; i++) {
            same(what + ", " + i, property.applyAsInt(i), want[i]);
        }
    }

    static void at(String text) {
        place = text;
    }

    static void fail(String text) {
        wrong++;
        if (wrong <= 50) {
            System.out.println(place + text);
        }
    }

    static void end() {
        System.out.println(wrong == 0 ? "all answers are as due" : wrong + " answers are not as due");
        if (wrong != 0) {
            System.exit(1);
        }
    }
}
