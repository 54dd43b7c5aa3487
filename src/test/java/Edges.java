import java.io.IOException;
import java.nio.file.Files;
import java.nio.file.Path;
import java.util.ArrayList;
import java.util.HashMap;
import java.util.List;
import java.util.Map;
import java.util.function.IntFunction;
import java.util.function.Supplier;

/** Tests of the document's sentences that name an edge: one test for each, behind the document's own words. */
final class Edges {
    interface Call {
        long on(LevelLoops x);
    }

    /** The surveys on which each call that is refused anywhere is tried. */
    static final List<Supplier<LevelLoops>> SURVEYS = List.of(Make::nothing, Make::busy, Make::full);

    private static final Map<String, String> SECTIONS = sections();
    private static final Map<String, List<String>> QUOTED = new HashMap<>();

    private Edges() {
    }

    private static Map<String, String> sections() {
        Map<String, String> sections = new HashMap<>();
        String heading = "";
        try {
            for (String line : Files.readAllLines(Path.of("../shared/DOC.md"))) {
                heading = line.startsWith("#") ? line.replaceFirst("^#+ ", "") : heading;
                sections.merge(heading, line + "\n", String::concat);
            }
        } catch (IOException e) {
            System.out.println("without the document its words are not looked up: " + e);
        }
        return sections;
    }

    /** The words are those of the document, so that nobody has to ask where a test comes from. */
    static void holds(String section, String words, Runnable test) {
        if (!SECTIONS.isEmpty() && !SECTIONS.getOrDefault(section, "").contains(words)) {
            Due.fail("the document does not say in " + section + ": " + words);
        }
        QUOTED.computeIfAbsent(section, s -> new ArrayList<>()).add(words);
        Due.at(section + ", \"" + words + "\": ");
        try {
            test.run();
        } catch (RuntimeException e) {
            Due.fail("threw " + e + " at " + e.getStackTrace()[0]);
        }
        Due.at("");
    }

    /** Each line of a promise that tells of an argument or of an exception has a test of its own. */
    static void eachLineIsQuoted(String section) {
        for (String line : SECTIONS.getOrDefault(section, "").split("\n")) {
            boolean edge = line.startsWith("Throws ") || line.startsWith("- ");
            if (edge && QUOTED.getOrDefault(section, List.of()).stream().noneMatch(line::contains)) {
                Due.fail("without a test, in " + section + ": " + line);
            }
        }
    }

    // ---- numbers at the edges

    /** Numbers that are not from the least to the most one: those beside it, and such as wrap around into it. */
    static int[] outside(int least, int most) {
        return new int[] {least - 1, most + 1, most + 32, most + 65536, most + (1 << 24), least - 256,
            Integer.MIN_VALUE, Integer.MIN_VALUE + 1, Integer.MAX_VALUE};
    }

    // ---- calls that are refused

    static void outOfBounds(Supplier<LevelLoops> maker, Call call) {
        refused(maker, IndexOutOfBoundsException.class, call);
    }

    static void badArgument(Supplier<LevelLoops> maker, Call call) {
        refused(maker, IllegalArgumentException.class, call);
    }

    static void badState(Supplier<LevelLoops> maker, Call call) {
        refused(maker, IllegalStateException.class, call);
    }

    /** The call throws exactly this exception, and all is as it is in a twin without the call: the saved states too. */
    static void refused(Supplier<LevelLoops> maker, Class<?> exception, Call call) {
        LevelLoops x = maker.get();
        try {
            Due.fail("answered " + call.on(x) + ", due is " + exception.getSimpleName());
        } catch (RuntimeException e) {
            if (e.getClass() != exception) {
                Due.fail("threw " + e + ", due is " + exception.getSimpleName());
            }
        }
        alike("behind " + exception.getSimpleName(), x, maker.get());
    }

    /** On each survey, each number that is not from 0 to below count(kind) is out of bounds. */
    static void noSuch(int kind, IntFunction<Call> call) {
        for (Supplier<LevelLoops> maker : SURVEYS) {
            for (int number : outside(0, maker.get().count(kind) - 1)) {
                outOfBounds(maker, call.apply(number));
            }
        }
    }

    /** On a busy and on a full survey, each number that is not from the least to the most one is a bad argument. */
    static void outOfRange(int least, int most, IntFunction<Call> call) {
        for (int number : outside(least, most)) {
            badArgument(Make::busy, call.apply(number));
            badArgument(Make::full, call.apply(number));
        }
    }

    /** A call that only looks: it can be answered, and changes nothing. */
    static void looks(Supplier<LevelLoops> maker, Call call) {
        LevelLoops x = maker.get();
        call.on(x);
        alike("behind a look", x, maker.get());
    }

    /** Asks both for all that can be seen, and undoes until there is nothing to undo. */
    static void alike(String when, LevelLoops x, LevelLoops y) {
        Due.same("digest " + when, x.digest(), y.digest());
        Due.same("firstError " + when, x.firstError(), y.firstError());
        while (x.count(10) > 0 && y.count(10) > 0) {
            Due.same("undo " + when, x.undo(), y.undo());
            Due.same("digest " + when + " and undo", x.digest(), y.digest());
        }
        Due.same("saved states at last, " + when, x.count(10), y.count(10));
        Due.same("buffer " + when, x.clearBuffer(), y.clearBuffer());
    }
}
