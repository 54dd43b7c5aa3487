import java.util.function.Supplier;

/** The edges that the promises 23 to 26 name. */
public final class EdgesOfWouldBeTest {
    private static final String WITHOUT = "Promise 23: without";
    private static final String FITTING = "Promise 24: fitting";
    private static final String SHARE = "Promise 25: goodShare";
    private static final String DIGEST = "Promise 26: digest";
    private static final String NO_SUCH_LEG = "Throws `IndexOutOfBoundsException` if there is no such leg";

    public static void main(String[] args) {
        Edges.holds("Exceptions", "what would be; nothing is changed.", EdgesOfWouldBeTest::nothingIsChanged);
        Edges.holds(WITHOUT, "- `leg`: its number", EdgesOfWouldBeTest::withoutEach);
        Edges.holds(WITHOUT, "0: loops; 1: bad loops; 2: nets; 3: the size of the misses of all loops together",
                EdgesOfWouldBeTest::withoutWhat);
        Edges.holds(WITHOUT, NO_SUCH_LEG, () -> {
            for (int what = 0; what <= 3; what++) {
                int same = what;
                Edges.noSuch(1, n -> x -> x.without(n, same));
            }
        });
        Edges.holds(WITHOUT, "Throws `IllegalArgumentException` if what is not 0 to 3", () -> {
            Edges.outOfRange(0, 3, n -> x -> x.without(0, n));
            Edges.outOfRange(0, 3, n -> x -> x.without(3, n));
        });
        Edges.holds(FITTING, "- `leg`: its number", EdgesOfWouldBeTest::fittingEach);
        Edges.holds(FITTING, "the corrected way between its marks by the other legs, in the survey without this leg",
                EdgesOfWouldBeTest::fittingCorrected);
        Edges.holds(FITTING, "plus 1000000", EdgesOfWouldBeTest::fittingMost);
        Edges.holds(FITTING, "NONE if its marks would not be of one net then", EdgesOfWouldBeTest::fittingNone);
        Edges.holds(FITTING, NO_SUCH_LEG, () -> Edges.noSuch(1, n -> x -> x.fitting(n)));
        Edges.holds(SHARE, "Returns the loops that are not bad, as a double, divided by all loops",
                EdgesOfWouldBeTest::shares);
        Edges.holds(SHARE, "1.0 without loops", EdgesOfWouldBeTest::shareOfNone);
        Edges.holds(DIGEST, "The hash starts at 2741.", EdgesOfWouldBeTest::digestOfNothing);
        Edges.holds(DIGEST, "the hash becomes 31 * hash + v, in long arithmetic with overflow",
                EdgesOfWouldBeTest::digestByTheList);
        Edges.holds(DIGEST, "the bits of goodShare (as Double.doubleToLongBits)", EdgesOfWouldBeTest::digestOfShares);
        Edges.holds(DIGEST, "the length of the buffer and each of its character codes", EdgesOfWouldBeTest::digestOfTexts);
        Edges.eachLineIsQuoted(WITHOUT);
        Edges.eachLineIsQuoted(FITTING);
        Edges.eachLineIsQuoted(SHARE);
        Edges.eachLineIsQuoted(DIGEST);
        Due.end();
    }

    private static void nothingIsChanged() {
        for (Supplier<LevelLoops> maker : Edges.SURVEYS) {
            Edges.looks(maker, x -> (long) x.goodShare());
            Edges.looks(maker, LevelLoops::digest);
            int legs = maker.get().count(1);
            for (int leg = 0; leg < legs; leg++) {
                int same = leg;
                Edges.looks(maker, x -> x.without(same, 0) + x.without(same, 3));
                Edges.looks(maker, x -> x.fitting(same));
            }
        }
    }

    // ---- without, fitting

    /** What would be without a leg is what is when it is removed, also behind a question for another leg. */
    private static void withoutEach() {
        for (Supplier<LevelLoops> maker : Edges.SURVEYS) {
            LevelLoops x = maker.get();
            int legs = x.count(1);
            for (int leg = 0; leg < legs; leg++) {
                int same = leg;
                LevelLoops y = maker.get();
                y.removeLeg(leg);
                Due.row("without " + leg, i -> x.without(same, i), y.count(2), y.count(3), y.count(4), y.count(6));
            }
        }
    }

    private static void withoutWhat() {
        Due.row("the only leg", i -> Make.sameLegs(1).without(0, i), 0, 0, 2, 0);
        LevelLoops two = Make.legs(Make.sameLegs(1), Make.leg(0, 1, 9, 1));
        Due.row("a leg of the only loop", i -> two.without(0, i), 0, 0, 1, 0);
        Due.row("the leg that closes it", i -> two.without(1, i), 0, 0, 1, 0);
        LevelLoops tree = Make.chain(10, 9999, 9);
        Due.row("the first leg of a tree", i -> tree.without(0, i), 0, 0, 2, 0);
        Due.row("the last leg of a tree", i -> tree.without(8, i), 0, 0, 2, 0);
        LevelLoops most = Make.sameLegs(20);
        Due.row("the first of 20", i -> most.without(0, i), 18, 0, 1, 0);
        most.measure(0, 9999);
        Due.row("the one to blame", i -> most.without(0, i), 18, 0, 1, 0);
        Due.row("one of the others", i -> most.without(19, i), 18, 18, 1, 18 * 9999);
        Due.row("misses above and below", i -> Make.legs(Make.sameLegs(2), Make.leg(0, 1, 5, 1),
                Make.leg(0, 1, -4, 1)).without(0, i), 2, 1, 1, 9);
    }

    private static void fittingEach() {
        for (Supplier<LevelLoops> maker : Edges.SURVEYS) {
            LevelLoops x = maker.get();
            int legs = x.count(1);
            for (int leg = legs - 1; leg >= 0; leg--) {
                LevelLoops y = maker.get();
                y.removeLeg(leg);
                Due.same("fitting of " + leg, x.fitting(leg), y.way(x.leg(leg, 0), x.leg(leg, 1), 2));
            }
        }
    }

    private static void fittingCorrected() {
        LevelLoops x = Make.legs(Make.unknownMarks(2), Make.leg(0, 1, 10, 1), Make.leg(0, 1, 14, 1),
                Make.leg(0, 1, 999, 2));
        Due.same("by the two others, corrected", x.fitting(2), 1000012);
        x.turn(2);
        Due.same("the other way around", x.fitting(2), 999988);
        // of 1: 10 and -999 the other way: 989 by lengths 1 and 2
        Due.same("of a leg of the tree", x.fitting(1), 1000000 + 10 + 330);
    }

    private static void fittingMost() {
        LevelLoops up = Make.chain(10, 9999, 1);
        up.addLeg(0, 9, 0, 9);
        Due.same("the greatest", up.fitting(9), 1089991);
        up.turn(9);
        Due.same("the least", up.fitting(9), 910009);
        LevelLoops none = Make.legs(Make.sameLegs(1), Make.leg(1, 0, 77, 9));
        Due.same("none", none.fitting(1), 1000000);
        Due.same("the difference of the other one", none.fitting(0), 1000000 - 77);
    }

    private static void fittingNone() {
        Due.same("the only leg", Make.sameLegs(1).fitting(0), -1);
        LevelLoops x = Make.legs(Make.chain(10, 5, 1), Make.leg(0, 8, 5, 9));
        Due.same("a leg in no loop", x.fitting(8), -1);
        Due.same("a leg in a loop", x.fitting(7), 1000000 + 5 - 35);
        x.removeLeg(0);
        Due.same("the loop is gone", x.fitting(7), -1);
    }

    // ---- goodShare, digest

    private static LevelLoops shares(int loops, int bad) {
        LevelLoops x = Make.sameLegs(1);
        for (int loop = 0; loop < loops; loop++) {
            x.addLeg(0, 1, loop < bad ? 5 : 4, 1);
        }
        return x;
    }

    private static void shares() {
        for (int loops = 1; loops <= 19; loops++) {
            for (int bad = 0; bad <= loops; bad++) {
                Due.sameDouble(bad + " of " + loops + " are bad", shares(loops, bad).goodShare(),
                        (double) (loops - bad) / loops);
            }
        }
        Due.sameDouble("all are bad", shares(19, 19).goodShare(), 0.0);
        Due.sameDouble("none is bad", shares(19, 0).goodShare(), 1.0);
        Due.sameDouble("the only one is bad", shares(1, 1).goodShare(), 0.0);
    }

    private static void shareOfNone() {
        Due.sameDouble("of nothing", new LevelLoops().goodShare(), 1.0);
        Due.sameDouble("of marks", Make.unknownMarks(10).goodShare(), 1.0);
        Due.sameDouble("of a tree", Make.chain(10, 9999, 9).goodShare(), 1.0);
        LevelLoops x = shares(1, 1);
        x.removeLeg(1);
        Due.sameDouble("when the bad loop is gone", x.goodShare(), 1.0);
    }

    private static void digestOfNothing() {
        long hash = 2741;
        long[] values = {0, 0, 0, 0, 0, 0, 0, 0, 0, 0, 0, 10, 2, 5, -1, -1, Double.doubleToLongBits(1.0), 0};
        for (long v : values) {
            hash = 31 * hash + v;
        }
        Due.same("digest", new LevelLoops().digest(), hash);
        Due.same("digest again", new LevelLoops().digest(), hash);
    }

    private static void digestByTheList() {
        Due.same("busy", Make.busy().digest(), ByList.digest(Make::busy, "m5;0-1:"));
        Due.same("full", Make.full().digest(),
                ByList.digest(Make::full, "m99999;m99998;m99997;m99996;m99995;m99994;m99993;0-1:-9999/9"));
        Due.same("marks alone", Make.marks(-1, 0, 99999).digest(), ByList.digest(() -> Make.marks(-1, 0, 99999), ""));
        Due.same("one leg", Make.sameLegs(1).digest(), ByList.digest(() -> Make.sameLegs(1), ""));
        Due.same("20 legs", Make.sameLegs(20).digest(), ByList.digest(() -> Make.sameLegs(20), ""));
        Due.same("heights below 0", deep().digest(), ByList.digest(EdgesOfWouldBeTest::deep, ""));
    }

    private static LevelLoops deep() {
        LevelLoops x = Make.chain(10, -9999, 1);
        x.know(0, 0);
        return x;
    }

    private static void digestOfShares() {
        for (int loops = 0; loops <= 19; loops++) {
            for (int bad = 0; bad <= loops; bad++) {
                int all = loops;
                int wrong = bad;
                Due.same(bad + " of " + loops + " are bad", shares(loops, bad).digest(),
                        ByList.digest(() -> shares(all, wrong), ""));
            }
        }
    }

    private static void digestOfTexts() {
        String[] texts = {"", "m", "!", "~", "m;", ";m", "!~".repeat(30)};
        for (String text : texts) {
            LevelLoops x = Make.typed(new LevelLoops(), text);
            Due.same("with " + text, x.digest(), ByList.digest(Make::nothing, text));
        }
        LevelLoops x = Make.typed(new LevelLoops(), "~~~");
        x.clearBuffer();
        Make.type(x, "!");
        Due.same("nothing is left of an old text", x.digest(), ByList.digest(Make::nothing, "!"));
    }
}
