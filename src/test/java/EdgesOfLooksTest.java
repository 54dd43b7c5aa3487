import java.util.function.Supplier;

/** The edges that the promises 15 to 22 name. */
public final class EdgesOfLooksTest {
    private static final String MARK = "Promise 15: mark";
    private static final String LEG = "Promise 16: leg";
    private static final String LOOP = "Promise 17: loop";
    private static final String WAY = "Promise 18: way";
    private static final String COUNT = "Promise 19: count";
    private static final String SETTING = "Promise 20: setting";
    private static final String WORST = "Promise 21: worst";
    private static final String SUSPECT = "Promise 22: suspect";
    private static final String NO_SUCH_MARK = "Throws `IndexOutOfBoundsException` if there is no such mark";

    public static void main(String[] args) {
        Edges.holds("Exceptions", "looks; nothing is changed.", EdgesOfLooksTest::nothingIsChanged);
        marks();
        legs();
        loops();
        ways();
        counts();
        found();
        String[] promises = {MARK, LEG, LOOP, WAY, COUNT, SETTING, WORST, SUSPECT};
        for (String promise : promises) {
            Edges.eachLineIsQuoted(promise);
        }
        Due.end();
    }

    private static void marks() {
        Edges.holds(MARK, "- `mark`: its number", EdgesOfLooksTest::markNumbers);
        Edges.holds(MARK, "0: its known height, NONE if it is not known", () -> marks(0, 0, 99999, -1, -1, 8));
        Edges.holds(MARK, "1: its height, NO_HEIGHT if it has none", () -> marks(1, 0, 99999, 90000, -1000000, 0));
        Edges.holds(MARK, "2: its net, told by the lowest mark of it", () -> marks(2, 0, 1, 1, 3, 0));
        Edges.holds(MARK, "3: 0 if it did not move, or nothing is to be told, 1 if it sank, 2 if it rose",
                EdgesOfLooksTest::markMoved);
        Edges.holds(MARK, "4: legs at it, how many", EdgesOfLooksTest::markLegs);
        Edges.holds(MARK, "5: the base of its net, NONE without one", () -> marks(5, 0, 1, 1, -1, 0));
        Edges.holds(MARK, "6: with how many other known marks of its net it agrees, NONE if its height is not known",
                () -> marks(6, 0, 0, -1, -1, 0));
        Edges.holds(MARK, NO_SUCH_MARK, () -> {
            for (int what = 0; what <= 6; what++) {
                int same = what;
                Edges.noSuch(0, n -> x -> x.mark(n, same));
            }
        });
        Edges.holds(MARK, "Throws `IllegalArgumentException` if what is not 0 to 6",
                () -> Edges.outOfRange(0, 6, n -> x -> x.mark(0, n)));
    }

    private static void legs() {
        Edges.holds(LEG, "- `leg`: its number", EdgesOfLooksTest::legNumbers);
        Edges.holds(LEG, "0: its former mark; 1: its latter mark; 2: its length", EdgesOfLooksTest::legAsAdded);
        Edges.holds(LEG, "3: its difference, plus 100000", EdgesOfLooksTest::legDifference);
        Edges.holds(LEG, "4: its corrected difference, plus 100000", EdgesOfLooksTest::legCorrected);
        Edges.holds(LEG, "5: its correction (what is added to the difference), plus 100000",
                EdgesOfLooksTest::legCorrection);
        Edges.holds(LEG, "6: 1 if it belongs to the tree, otherwise 0", EdgesOfLooksTest::legOfTree);
        Edges.holds(LEG, "7: the loop that it closes, NONE if it belongs to the tree", EdgesOfLooksTest::legCloses);
        Edges.holds(LEG, "8: in how many loops it is", EdgesOfLooksTest::legInLoops);
        Edges.holds(LEG, "9: in how many bad loops it is", EdgesOfLooksTest::legInBadLoops);
        Edges.holds(LEG, "Throws `IndexOutOfBoundsException` if there is no such leg", () -> {
            for (int what = 0; what <= 9; what++) {
                int same = what;
                Edges.noSuch(1, n -> x -> x.leg(n, same));
            }
        });
        Edges.holds(LEG, "Throws `IllegalArgumentException` if what is not 0 to 9",
                () -> Edges.outOfRange(0, 9, n -> x -> x.leg(0, n)));
    }

    private static void loops() {
        Edges.holds(LOOP, "- `loop`: its number", EdgesOfLooksTest::loopNumbers);
        Edges.holds(LOOP, "0: the leg that closes it; 1: its legs, as a mask", EdgesOfLooksTest::loopMask);
        Edges.holds(LOOP, "3: the size of its miss", EdgesOfLooksTest::loopMiss);
        Edges.holds(LOOP, "4: 0 if it closes without corrections, 1 if the miss is above 0, 2 if it is below 0",
                EdgesOfLooksTest::loopSign);
        Edges.holds(LOOP, "5: by what it is allowed to miss; 6: 1 if it is bad, otherwise 0",
                EdgesOfLooksTest::loopBad);
        Edges.holds(LOOP, "7: the size of the miss that was spread for it", EdgesOfLooksTest::loopSpread);
        Edges.holds(LOOP, "Throws `IndexOutOfBoundsException` if there is no such loop", () -> {
            for (int what = 0; what <= 7; what++) {
                int same = what;
                Edges.noSuch(2, n -> x -> x.loop(n, same));
            }
        });
        Edges.holds(LOOP, "Throws `IllegalArgumentException` if what is not 0 to 7",
                () -> Edges.outOfRange(0, 7, n -> x -> x.loop(0, n)));
    }

    private static void ways() {
        Edges.holds(WAY, "- `from`: the number of a mark", () -> wayNumbers(true));
        Edges.holds(WAY, "- `to`: the number of a mark", () -> wayNumbers(false));
        Edges.holds(WAY, "0: its legs, how many; 1: its length", EdgesOfLooksTest::wayLengths);
        Edges.holds(WAY, "2: the corrected difference on it, plus 1000000", EdgesOfLooksTest::wayDifference);
        Edges.holds(WAY, "3: the first leg on it, NONE if both marks are the same", EdgesOfLooksTest::wayFirst);
        Edges.holds(WAY, "NONE if they are not of one net", EdgesOfLooksTest::wayOfTwoNets);
        Edges.holds(WAY, NO_SUCH_MARK, () -> {
            for (int what = 0; what <= 3; what++) {
                int same = what;
                Edges.noSuch(0, n -> x -> x.way(n, 0, same));
                Edges.noSuch(0, n -> x -> x.way(0, n, same));
                Edges.noSuch(0, n -> x -> x.way(n, n, same));
            }
        });
        Edges.holds(WAY, "Throws `IllegalArgumentException` if what is not 0 to 3", () -> {
            Edges.outOfRange(0, 3, n -> x -> x.way(0, 1, n));
            Edges.outOfRange(0, 3, n -> x -> x.way(2, 2, n));
            for (int what : Edges.outside(0, 3)) {
                Edges.badArgument(() -> Make.unknownMarks(2), x -> x.way(0, 1, what));
            }
        });
    }

    private static void counts() {
        Edges.holds(COUNT, "0: marks; 1: legs; 2: loops; 3: bad loops; 4: nets; 5: marks that moved",
                EdgesOfLooksTest::countThings);
        Edges.holds(COUNT, "6: the size of the misses of all loops together; 7: the size of all corrections together",
                EdgesOfLooksTest::countSizes);
        Edges.holds(COUNT, "8: marks with heights", EdgesOfLooksTest::countHeights);
        Edges.holds(COUNT, "9: the length of all legs together", EdgesOfLooksTest::countLength);
        Edges.holds(COUNT, "10: saved states", EdgesOfLooksTest::countSaved);
        Edges.holds(COUNT, "Throws `IllegalArgumentException` if what is not 0 to 10", () -> {
            Edges.outOfRange(0, 10, n -> x -> x.count(n));
            for (int what : Edges.outside(0, 10)) {
                Edges.badArgument(Make::nothing, x -> x.count(what));
            }
        });
        Edges.holds(SETTING, "- `setting`: 0 to 2", EdgesOfLooksTest::settings);
        Edges.holds(SETTING, "Throws `IndexOutOfBoundsException` if there is no such setting", () -> {
            for (int setting : Edges.outside(0, 2)) {
                Edges.SURVEYS.forEach(maker -> Edges.outOfBounds(maker, x -> x.setting(setting)));
            }
        });
    }

    private static void found() {
        Edges.holds(WORST, "the loop that misses by most above what it is allowed to", EdgesOfLooksTest::worstAbove);
        Edges.holds(WORST, "(or by least below)", EdgesOfLooksTest::worstBelow);
        Edges.holds(WORST, "of several the lowest one", EdgesOfLooksTest::worstLowest);
        Edges.holds(WORST, "NONE without loops", EdgesOfLooksTest::worstNone);
        Edges.holds(SUSPECT, "of the legs that are in all bad loops", EdgesOfLooksTest::suspectInAll);
        Edges.holds(SUSPECT, "the one that is in the fewest loops that are not bad", EdgesOfLooksTest::suspectFewest);
        Edges.holds(SUSPECT, "of several the longest one", EdgesOfLooksTest::suspectLongest);
        Edges.holds(SUSPECT, "of several the lowest one", EdgesOfLooksTest::suspectLowest);
        Edges.holds(SUSPECT, "NONE if there is no bad loop", EdgesOfLooksTest::suspectNoBad);
        Edges.holds(SUSPECT, "or no leg is in all of them", EdgesOfLooksTest::suspectNone);
    }

    private static void nothingIsChanged() {
        for (Supplier<LevelLoops> maker : Edges.SURVEYS.subList(1, 3)) {
            for (int what = 0; what <= 10; what++) {
                int same = what;
                Edges.looks(maker, x -> x.mark(0, Math.min(6, same)));
                Edges.looks(maker, x -> x.leg(0, Math.min(9, same)));
                Edges.looks(maker, x -> x.loop(0, Math.min(7, same)));
                Edges.looks(maker, x -> x.way(0, 2, Math.min(3, same)));
                Edges.looks(maker, x -> x.count(same));
                Edges.looks(maker, x -> x.setting(Math.min(2, same)));
            }
        }
        for (Supplier<LevelLoops> maker : Edges.SURVEYS) {
            Edges.looks(maker, LevelLoops::worst);
            Edges.looks(maker, LevelLoops::suspect);
        }
    }

    // ---- mark

    /** Nets of marks 0 and 4, 1 and 2, and 3 alone; the known heights of 0 and 4 do not agree. */
    private static LevelLoops nets() {
        return Make.legs(Make.marks(0, 99999, -1, -1, 8), Make.leg(4, 0, 0, 1), Make.leg(2, 1, 9999, 1));
    }

    private static void marks(int what, int... want) {
        LevelLoops x = nets();
        Due.row("mark", i -> x.mark(i, what), want);
    }

    private static void markNumbers() {
        LevelLoops x = Make.marks(10, 11, 12, 13, 14, 15, 16, 17, 18, 19);
        Due.row("known", i -> x.mark(i, 0), 10, 11, 12, 13, 14, 15, 16, 17, 18, 19);
        Due.same("of one mark", Make.marks(7).mark(0, 0), 7);
    }

    private static void markMoved() {
        marks(3, 0, 0, 0, 0, 1);
        LevelLoops x = nets();
        x.know(0, 14);
        Due.row("by 6 below", i -> x.mark(i, 3), 0, 0, 0, 0, 2);
        x.know(0, 13);
        Due.row("by 5 below", i -> x.mark(i, 3), 0, 0, 0, 0, 0);
        x.know(0, 3);
        Due.row("by 5 above", i -> x.mark(i, 3), 0, 0, 0, 0, 0);
        x.know(0, 2);
        Due.row("by 6 above", i -> x.mark(i, 3), 0, 0, 0, 0, 1);
        x.know(0, LevelLoops.NONE);
        Due.row("0 is not known", i -> x.mark(i, 3), 0, 0, 0, 0, 0);
    }

    private static void markLegs() {
        marks(4, 1, 1, 1, 0, 1);
        LevelLoops x = Make.sameLegs(20);
        x.turn(7);
        Due.row("all legs", i -> x.mark(i, 4), 20, 20);
        LevelLoops y = Make.chain(10, 0, 1);
        Due.row("a chain", i -> y.mark(i, 4), 1, 2, 2, 2, 2, 2, 2, 2, 2, 1);
    }

    // ---- leg

    private static void legNumbers() {
        LevelLoops x = Make.full();
        Due.same("the first one", x.leg(0, 2), 1);
        Due.same("the last one", x.leg(19, 2), 96);
        Due.same("the only one", Make.sameLegs(1).leg(0, 2), 1);
    }

    private static void legAsAdded() {
        LevelLoops x = Make.legs(Make.unknownMarks(10), Make.leg(0, 9, 5, 1), Make.leg(9, 0, 5, 99));
        Due.row("the least", i -> x.leg(0, i), 0, 9, 1);
        Due.row("the greatest", i -> x.leg(1, i), 9, 0, 99);
    }

    private static void legDifference() {
        for (int difference : new int[] {-9999, 9999, 0, -1}) {
            LevelLoops x = Make.legs(Make.unknownMarks(2), Make.leg(0, 1, difference, 1), Make.leg(0, 1, 9, 1));
            Due.same("not corrected", x.leg(0, 3), 100000 + difference);
        }
    }

    /** A leg with the greatest correction: all that a chain of the greatest differences misses by. */
    private static LevelLoops greatestCorrection(int difference) {
        LevelLoops x = Make.chain(10, difference, 1);
        for (int leg = 0; leg < 9; leg++) {
            x.addLeg(leg, leg + 1, difference, 1);
        }
        x.addLeg(0, 9, -difference, 99);
        return x;
    }

    private static void legCorrected() {
        LevelLoops up = greatestCorrection(9999);
        Due.same("the greatest", up.leg(18, 4), 100000 + 9 * 9999);
        Due.same("no correction", up.leg(0, 4), 109999);
        LevelLoops down = greatestCorrection(-9999);
        Due.same("the least", down.leg(18, 4), 100000 - 9 * 9999);
        LevelLoops none = Make.legs(Make.unknownMarks(2), Make.leg(0, 1, 0, 1), Make.leg(0, 1, 0, 1));
        Due.same("none", none.leg(1, 4), 100000);
    }

    private static void legCorrection() {
        Due.same("the greatest", greatestCorrection(9999).leg(18, 5), 100000 + 99990);
        Due.same("the least", greatestCorrection(-9999).leg(18, 5), 100000 - 99990);
        Due.same("none", greatestCorrection(9999).leg(0, 5), 100000);
        Due.same("in no loop", Make.chain(2, 9999, 1).leg(0, 5), 100000);
    }

    private static void legOfTree() {
        LevelLoops x = Make.sameLegs(20);
        Due.same("in the tree", x.leg(0, 6), 1);
        Due.same("not in the tree", x.leg(1, 6), 0);
        Due.same("nor the last one", x.leg(19, 6), 0);
        Due.same("the only one", Make.sameLegs(1).leg(0, 6), 1);
    }

    private static void legCloses() {
        LevelLoops x = Make.sameLegs(20);
        Due.same("none", x.leg(0, 7), -1);
        Due.same("the first loop", x.leg(1, 7), 0);
        Due.same("the last loop", x.leg(19, 7), 18);
        x.addMark(LevelLoops.NONE);
        x.removeLeg(5);
        x.addLeg(1, 2, 0, 1);
        Due.same("none, with a higher number", x.leg(19, 7), -1);
        Due.same("the loop ahead of it", x.leg(18, 7), 17);
    }

    private static void legInLoops() {
        LevelLoops x = Make.sameLegs(20);
        Due.same("in all", x.leg(0, 8), 19);
        Due.same("in one", x.leg(19, 8), 1);
        Due.same("in none", Make.sameLegs(1).leg(0, 8), 0);
    }

    private static void legInBadLoops() {
        LevelLoops x = Make.sameLegs(20);
        Due.same("none is bad", x.leg(0, 9), 0);
        x.measure(19, 5);
        Due.same("one is bad", x.leg(0, 9), 1);
        Due.same("the bad one", x.leg(19, 9), 1);
        Due.same("a good one", x.leg(18, 9), 0);
        x.measure(0, 900);
        Due.same("all are bad", x.leg(0, 9), 19);
        Due.same("each of them", x.leg(1, 9), 1);
        Due.same("in none", Make.sameLegs(1).leg(0, 9), 0);
    }

    // ---- loop

    private static void loopNumbers() {
        LevelLoops x = Make.full();
        Due.same("loops", x.count(2), 11);
        Due.same("the first one", x.loop(0, 0), 9);
        Due.same("the last one", x.loop(10, 0), 19);
        Edges.outOfBounds(Make::full, y -> y.loop(11, 0));
        Edges.outOfBounds(() -> Make.sameLegs(1), y -> y.loop(0, 0));
        LevelLoops one = Make.sameLegs(2);
        Due.same("the only one", one.loop(0, 0), 1);
    }

    private static void loopMask() {
        LevelLoops x = Make.sameLegs(20);
        Due.row("the last leg", i -> x.loop(18, i), 19, (1 << 19) + 1, 2);
        Due.row("the first two legs", i -> x.loop(0, i), 1, 3, 2);
        LevelLoops y = Make.chain(10, 0, 99);
        y.addLeg(9, 0, 0, 99);
        Due.row("all ten legs", i -> y.loop(0, i), 9, 1023, 990);
    }

    private static LevelLoops missing(int miss) {
        return Make.legs(Make.sameLegs(1), Make.leg(0, 1, miss, 1));
    }

    private static void loopMiss() {
        for (int miss : new int[] {-9999, -1, 0, 1, 9999}) {
            Due.same("of " + miss, missing(miss).loop(0, 3), Math.abs(miss));
        }
        Due.same("the greatest", greatestCorrection(9999).loop(9, 3), 99990);
    }

    private static void loopSign() {
        Due.same("0", missing(0).loop(0, 4), 0);
        Due.same("1", missing(1).loop(0, 4), 1);
        Due.same("-1", missing(-1).loop(0, 4), 2);
        Due.same("9999", missing(9999).loop(0, 4), 1);
        Due.same("-9999", missing(-9999).loop(0, 4), 2);
        Due.same("above", greatestCorrection(-9999).loop(9, 4), 1);
    }

    private static void loopBad() {
        Due.row("just allowed", i -> missing(4).loop(0, i + 5), 4, 0);
        Due.row("just not", i -> missing(5).loop(0, i + 5), 4, 1);
        Due.row("just allowed, below", i -> missing(-4).loop(0, i + 5), 4, 0);
        Due.row("just not, below", i -> missing(-5).loop(0, i + 5), 4, 1);
    }

    private static void loopSpread() {
        Due.same("nothing", missing(0).loop(0, 7), 0);
        Due.same("above", missing(7).loop(0, 7), 7);
        Due.same("below", missing(-7).loop(0, 7), 7);
        LevelLoops x = Make.legs(Make.unknownMarks(2), Make.leg(0, 1, 0, 1), Make.leg(0, 1, 40, 3), Make.leg(0, 1, 0, 1));
        Due.row("more than the miss", i -> x.loop(1, i + 3), 0, 0, 4, 0, 10);
    }

    // ---- way

    private static void wayNumbers(boolean from) {
        LevelLoops x = Make.chain(10, 1, 1);
        for (int mark = 0; mark < 10; mark++) {
            Due.same("0 and " + mark, from ? x.way(mark, 0, 0) : x.way(0, mark, 0), mark);
            Due.same("9 and " + mark, from ? x.way(mark, 9, 0) : x.way(9, mark, 0), 9 - mark);
            Due.same("difference", from ? x.way(mark, 0, 2) : x.way(0, mark, 2), 1000000 + (from ? -mark : mark));
        }
    }

    private static void wayLengths() {
        LevelLoops x = Make.chain(10, 0, 99);
        Due.row("the longest", i -> x.way(0, 9, i), 9, 891);
        Due.row("the longest back", i -> x.way(9, 0, i), 9, 891);
        Due.row("one leg", i -> x.way(4, 5, i), 1, 99);
        Due.row("none", i -> x.way(5, 5, i), 0, 0);
        Due.row("the least", i -> Make.sameLegs(20).way(0, 1, i), 1, 1);
    }

    private static void wayDifference() {
        Due.same("the greatest", Make.chain(10, 9999, 1).way(0, 9, 2), 1089991);
        Due.same("the greatest, back", Make.chain(10, 9999, 1).way(9, 0, 2), 910009);
        Due.same("the least", Make.chain(10, -9999, 1).way(0, 9, 2), 910009);
        Due.same("none", Make.chain(10, 9999, 1).way(7, 7, 2), 1000000);
        LevelLoops x = Make.legs(Make.sameLegs(1), Make.leg(0, 1, 4, 1));
        Due.same("corrected", x.way(0, 1, 2), 1000002);
        Due.same("corrected, back", x.way(1, 0, 2), 999998);
    }

    private static void wayFirst() {
        LevelLoops x = Make.chain(10, 0, 1);
        Due.same("from 0", x.way(0, 9, 3), 0);
        Due.same("from 9", x.way(9, 0, 3), 8);
        Due.same("up from 4", x.way(4, 9, 3), 4);
        Due.same("down from 4", x.way(4, 0, 3), 3);
        for (int mark = 0; mark < 10; mark++) {
            Due.same("from a mark to itself", x.way(mark, mark, 3), -1);
        }
        LevelLoops y = Make.legs(Make.unknownMarks(4), Make.leg(1, 2, 0, 1), Make.leg(2, 3, 0, 1), Make.leg(0, 1, 0, 1));
        Due.same("not the lowest one of the way", y.way(0, 3, 3), 2);
        Due.same("from the other end", y.way(3, 0, 3), 1);
    }

    private static void wayOfTwoNets() {
        LevelLoops x = Make.chain(9, 0, 1);
        x.addMark(0);
        for (int mark = 0; mark < 9; mark++) {
            int same = mark;
            Due.row("to another net", i -> x.way(same, 9, i), -1, -1, -1, -1);
            Due.row("from another net", i -> x.way(9, same, i), -1, -1, -1, -1);
        }
        Due.row("within it", i -> x.way(9, 9, i), 0, 0, 1000000, -1);
        x.addLeg(9, 8, 0, 1);
        Due.row("joined", i -> x.way(0, 9, i), 9, 9, 1000000, 0);
    }

    // ---- count, setting

    private static void countThings() {
        Due.row("of nothing", new LevelLoops()::count, 0, 0, 0, 0, 0, 0);
        LevelLoops full = Make.full();
        Due.row("of a full survey", full::count, 10, 20, 11);
        Due.same("nets", full.count(4), 1);
        LevelLoops bad = Make.sameLegs(20);
        Due.same("no bad loops", bad.count(3), 0);
        bad.measure(1, 5);
        Due.same("a bad loop", bad.count(3), 1);
        bad.measure(0, 5000);
        Due.same("all bad loops", bad.count(3), 19);
        LevelLoops moved = Make.chain(10, 0, 1);
        for (int mark = 0; mark < 9; mark++) {
            moved.know(mark, 1000 * mark);
        }
        moved.know(9, 0);
        Due.same("all but two moved", moved.count(5), 8);
        moved.set(2, 0);
        moved.know(1, 0);
        Due.same("all but three moved", moved.count(5), 7);
        Due.same("the first mark moved", Make.legs(Make.marks(9, 0, 0), Make.leg(0, 1, 0, 1),
                Make.leg(1, 2, 0, 1)).count(5), 1);
        Due.same("the last mark moved", Make.legs(Make.marks(0, 0, 9), Make.leg(0, 1, 0, 1),
                Make.leg(1, 2, 0, 1)).count(5), 1);
        Due.same("nets of marks alone", Make.unknownMarks(10).count(4), 10);
    }

    private static void countSizes() {
        Due.row("of one loop that does not miss", i -> missing(0).count(i + 6), 0, 0);
        Due.row("of one loop above", i -> missing(9).count(i + 6), 9, 9);
        Due.row("of one loop below", i -> missing(-9).count(i + 6), 9, 9);
        LevelLoops both = Make.legs(Make.sameLegs(1), Make.leg(0, 1, 9, 1), Make.leg(0, 1, -9, 1));
        Due.same("9 and -9", both.count(6), 18);
        // loop 0: 5 and 4 of 9; loop 1 misses by 9 and these 5, all on its leg
        Due.row("corrections", leg -> both.leg(leg, 5), 100005, 99996, 100014);
        Due.same("corrections together", both.count(7), 23);
        LevelLoops most = Make.chain(10, 9999, 1);
        for (int i = 9; i < 20; i++) {
            most.addLeg(0, 9, -9999, 99);
        }
        Due.same("the greatest misses", most.count(6), 11 * 99990);
    }

    private static void countHeights() {
        Due.same("none", Make.unknownMarks(10).count(8), 0);
        Due.same("all known", Make.marks(0, 0, 0, 0, 0, 0, 0, 0, 0, 0).count(8), 10);
        LevelLoops x = Make.chain(10, 0, 1);
        Due.same("none of a net", x.count(8), 0);
        x.know(9, 0);
        Due.same("all by one", x.count(8), 10);
        x.removeLeg(0);
        Due.same("all but one", x.count(8), 9);
        x.removeLeg(7);
        Due.same("one", x.count(8), 1);
    }

    private static void countLength() {
        Due.same("of none", Make.unknownMarks(2).count(9), 0);
        Due.same("of one", Make.sameLegs(1).count(9), 1);
        LevelLoops x = Make.unknownMarks(2);
        for (int i = 1; i <= 20; i++) {
            x.addLeg(0, 1, 0, 99);
            Due.same("of " + i, x.count(9), 99 * i);
        }
    }

    private static void countSaved() {
        LevelLoops x = new LevelLoops();
        for (int i = 0; i <= 8; i++) {
            Due.same("behind " + i, x.count(10), Math.min(i, 6));
            x.addMark(0);
        }
        x.undo();
        Due.same("behind undo", x.count(10), 5);
    }

    private static void settings() {
        LevelLoops x = new LevelLoops();
        Due.row("at first", x::setting, 10, 2, 5);
        x.set(0, 99);
        x.set(1, 0);
        x.set(2, 999);
        Due.row("then", x::setting, 99, 0, 999);
    }

    // ---- worst, suspect

    /** Loops of two legs each, that share the leg 0 and miss by so much; each is allowed to miss by 4. */
    private static LevelLoops pairs(int... misses) {
        LevelLoops x = Make.sameLegs(1);
        for (int miss : misses) {
            x.addLeg(0, 1, miss, 1);
        }
        return x;
    }

    private static void worstAbove() {
        Due.same("above by 1", pairs(4, 5, 4).worst(), 1);
        Due.same("below counts by its size", pairs(7, -8, 7).worst(), 1);
        Due.same("the last of 19", pairs(9, 9, 9, 9, 9, 9, 9, 9, 9, 9, 9, 9, 9, 9, 9, 9, 9, 9, 10).worst(), 18);
        LevelLoops x = Make.legs(Make.sameLegs(1), Make.leg(0, 1, 110, 99), Make.leg(0, 1, 13, 1));
        Due.row("what is allowed", i -> x.loop(i, 5), 102, 4);
        Due.same("the one that misses by less is worse", x.worst(), 1);
        x.measure(1, 111);
        Due.same("both above by 9", x.worst(), 0);
    }

    private static void worstBelow() {
        Due.same("by 0 and by 1", pairs(3, 4).worst(), 1);
        Due.same("by 4 and by 3", pairs(0, -1).worst(), 1);
        LevelLoops x = Make.legs(Make.sameLegs(1), Make.leg(0, 1, 90, 99), Make.leg(0, 1, 0, 1));
        Due.same("below by 12 and by 4", x.worst(), 1);
        x.measure(1, 99);
        Due.same("below by 3 and by 4", x.worst(), 0);
    }

    private static void worstLowest() {
        Due.same("all good", pairs(0, 0, 0).worst(), 0);
        Due.same("of two", pairs(1, 9, -9).worst(), 1);
        Due.same("of all 19", pairs(new int[19]).worst(), 0);
        Due.same("the only one", pairs(0).worst(), 0);
    }

    private static void worstNone() {
        Due.same("of nothing", new LevelLoops().worst(), -1);
        Due.same("of marks alone", Make.unknownMarks(10).worst(), -1);
        Due.same("of a tree", Make.chain(10, 9999, 99).worst(), -1);
        LevelLoops x = pairs(9);
        x.removeLeg(0);
        Due.same("when the loop is gone", x.worst(), -1);
    }

    private static void suspectInAll() {
        Due.same("in both bad ones", pairs(9, 9).suspect(), 0);
        Due.same("in all 19", pairs(9, 9, 9, 9, 9, 9, 9, 9, 9, 9, 9, 9, 9, 9, 9, 9, 9, 9, 9).suspect(), 0);
        LevelLoops x = Make.legs(Make.chain(4, 0, 1), Make.leg(0, 2, 50, 2), Make.leg(1, 3, 50, 3));
        Due.same("the one that both share", x.suspect(), 1);
    }

    private static void suspectFewest() {
        Due.same("leg 0 is in a good one", pairs(0, 9).suspect(), 2);
        Due.same("though it is shorter and higher", Make.legs(Make.unknownMarks(3), Make.leg(0, 1, 0, 6),
                Make.leg(1, 2, 0, 5), Make.leg(0, 2, 90, 6), Make.leg(0, 1, 0, 99),
                Make.leg(0, 2, 99, 7)).suspect(), 1);
        LevelLoops x = Make.legs(Make.chain(3, 0, 5), Make.leg(0, 2, 90, 6), Make.leg(0, 2, 99, 7),
                Make.leg(0, 1, 0, 99), Make.leg(1, 2, 0, 99), Make.leg(1, 2, 0, 99));
        Due.same("in one good loop, not in two", x.suspect(), 0);
        Due.same("though another one is longer", Make.legs(Make.unknownMarks(3), Make.leg(0, 1, 0, 5),
                Make.leg(1, 2, 0, 6), Make.leg(0, 2, 90, 7), Make.leg(0, 2, 99, 8),
                Make.leg(1, 2, 0, 99)).suspect(), 0);
    }

    private static void suspectLongest() {
        LevelLoops x = Make.legs(Make.unknownMarks(3), Make.leg(0, 1, 0, 98), Make.leg(1, 2, 0, 97),
                Make.leg(2, 0, 500, 99));
        Due.same("by 1", x.suspect(), 2);
        LevelLoops tree = Make.legs(Make.unknownMarks(3), Make.leg(0, 1, 0, 9), Make.leg(1, 2, 0, 10),
                Make.leg(2, 0, 500, 11), Make.leg(2, 0, 500, 11));
        Due.same("9 and 10 of the tree", tree.suspect(), 1);
    }

    private static void suspectLowest() {
        LevelLoops x = Make.legs(Make.unknownMarks(3), Make.leg(0, 1, 0, 99), Make.leg(1, 2, 0, 99),
                Make.leg(2, 0, 500, 99));
        Due.same("of three", x.suspect(), 0);
        LevelLoops y = Make.legs(Make.unknownMarks(3), Make.leg(0, 1, 0, 9), Make.leg(1, 2, 0, 10),
                Make.leg(2, 0, 500, 10));
        Due.same("of two", y.suspect(), 1);
        LevelLoops last = Make.legs(Make.sameLegs(19), Make.leg(0, 1, 9, 1));
        Due.same("only the last leg", last.suspect(), 19);
    }

    private static void suspectNoBad() {
        Due.same("of nothing", new LevelLoops().suspect(), -1);
        Due.same("without loops", Make.chain(10, 9999, 9).suspect(), -1);
        Due.same("all just allowed", pairs(4, -4, 4).suspect(), -1);
        Due.same("one just not", pairs(4, -4, 5).suspect(), 3);
    }

    private static void suspectNone() {
        LevelLoops x = Make.legs(Make.chain(5, 0, 1), Make.leg(0, 2, 50, 2), Make.leg(2, 4, 50, 2));
        Due.same("two that share no leg", x.suspect(), -1);
        x.measure(5, 0);
        Due.same("one of them", x.suspect(), 4);
        LevelLoops three = Make.legs(Make.chain(4, 0, 1), Make.leg(0, 2, 50, 2), Make.leg(1, 3, 50, 3),
                Make.leg(2, 3, 50, 4));
        Due.same("three of which two share each a leg", three.suspect(), -1);
    }
}
