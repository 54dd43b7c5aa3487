import java.util.ArrayList;
import java.util.List;
import java.util.function.Supplier;

/** The hash of the document's list, reckoned from the answers of the other calls. */
final class ByList {
    private ByList() {
    }

    static long hash(List<Long> values) {
        long hash = 2741;
        for (long v : values) {
            hash = 31 * hash + v;
        }
        return hash;
    }

    /** Of a survey with this buffer. Several twins of it are asked, since none answers more than 512 calls. */
    static long digest(Supplier<LevelLoops> maker, String text) {
        List<Long> values = new ArrayList<>();
        counts(maker.get(), values);
        marks(maker.get(), values);
        legs(maker, values);
        loops(maker.get(), values);
        LevelLoops x = maker.get();
        values.add((long) x.worst());
        values.add((long) x.suspect());
        values.add(Double.doubleToLongBits(x.goodShare()));
        values.add((long) text.length());
        text.chars().forEach(c -> values.add((long) c));
        return hash(values);
    }

    private static void counts(LevelLoops x, List<Long> values) {
        for (int i = 0; i <= 10; i++) {
            values.add((long) x.count(i));
        }
        for (int i = 0; i <= 2; i++) {
            values.add((long) x.setting(i));
        }
    }

    private static void marks(LevelLoops x, List<Long> values) {
        int marks = x.count(0);
        for (int mark = 0; mark < marks; mark++) {
            for (int i = 0; i <= 6; i++) {
                values.add((long) x.mark(mark, i));
            }
            for (int i = 0; i <= 3; i++) {
                values.add((long) x.way(0, mark, i));
            }
        }
    }

    private static void legs(Supplier<LevelLoops> maker, List<Long> values) {
        int legs = maker.get().count(1);
        for (int leg = 0; leg < legs; leg++) {
            LevelLoops x = maker.get();
            for (int i = 0; i <= 9; i++) {
                values.add((long) x.leg(leg, i));
            }
            for (int i = 0; i <= 3; i++) {
                values.add((long) x.without(leg, i));
            }
            values.add((long) x.fitting(leg));
        }
    }

    private static void loops(LevelLoops x, List<Long> values) {
        int loops = x.count(2);
        for (int loop = 0; loop < loops; loop++) {
            for (int i = 0; i <= 7; i++) {
                values.add((long) x.loop(loop, i));
            }
        }
    }
}
