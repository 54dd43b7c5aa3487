import java.util.Random;

/** The edges that the section "Spreading" names. */
public final class EdgesOfSpreadingTest {
    private static final String SPREADING = "Spreading";

    public static void main(String[] args) {
        Edges.holds(SPREADING, "The loops are gone through by their numbers.", EdgesOfSpreadingTest::byNumbers);
        Edges.holds(SPREADING, "its miss is taken with the corrections that there are by then",
                EdgesOfSpreadingTest::byThen);
        Edges.holds(SPREADING, "those that have not been in a loop that was gone through before",
                EdgesOfSpreadingTest::freeLegs);
        Edges.holds(SPREADING, "also one without a miss", EdgesOfSpreadingTest::withoutMiss);
        Edges.holds(SPREADING, "the leg that closes it is always free", EdgesOfSpreadingTest::closingAlone);
        Edges.holds(SPREADING, "the share of the size of the miss by its length, divided by the lengths of all free legs"
                + " together, rounded down", EdgesOfSpreadingTest::roundedDown);
        Edges.holds(SPREADING, "what is left over is given out by 1, to the free legs with the greatest rests",
                EdgesOfSpreadingTest::leftOver);
        Edges.holds(SPREADING, "of several with the same to those with the lower numbers",
                EdgesOfSpreadingTest::sameRests);
        Edges.holds(SPREADING, "that is gone along in its direction becomes less, if the miss is above 0",
                EdgesOfSpreadingTest::along);
        Edges.holds(SPREADING, "that of a leg that is gone along against it the other way around",
                EdgesOfSpreadingTest::against);
        Edges.holds(SPREADING, "legs that are in no loop have 0", EdgesOfSpreadingTest::inNoLoop);
        Edges.holds(SPREADING, "So each loop closes to nothing behind this.", EdgesOfSpreadingTest::closesToNothing);
        Due.end();
    }

    private static void corrections(String what, LevelLoops x, int... want) {
        Due.row(what + ", correction", leg -> x.leg(leg, 5) - 100000, want);
        Due.row(what + ", corrected", leg -> x.leg(leg, 4) - x.leg(leg, 3), want);
    }

    /** Two loops share leg 0; the one with the lower number is the longer one, by far, and closed by a longer leg. */
    private static void byNumbers() {
        LevelLoops x = Make.legs(Make.unknownMarks(2), Make.leg(0, 1, 0, 1), Make.leg(0, 1, 40, 3), Make.leg(0, 1, 40, 1));
        corrections("the lower number first", x, 10, -30, -30);
        Due.same("spread for the first", x.loop(0, 7), 40);
        Due.same("spread for the last", x.loop(1, 7), 30);
    }

    private static void byThen() {
        LevelLoops x = Make.legs(Make.unknownMarks(2), Make.leg(0, 1, 0, 1), Make.leg(0, 1, 10, 1), Make.leg(0, 1, 5, 1));
        Due.same("its miss", x.loop(1, 3), 5);
        Due.same("what was spread", x.loop(1, 7), 0);
        corrections("it closed by the loop before", x, 5, -5, 0);
        x.measure(2, 0);
        Due.same("without a miss", x.loop(1, 3), 0);
        Due.same("it misses by then", x.loop(1, 7), 5);
        corrections("it misses by then", x, 5, -5, 5);
        Due.same("without corrections it closes", x.loop(1, 4), 0);
    }

    /** Leg 1 is in both loops: it is not free in the second one, though nothing fell to it in the first one. */
    private static void freeLegs() {
        LevelLoops x = Make.legs(Make.chain(4, 0, 1), Make.leg(0, 2, 1, 2), Make.leg(1, 3, 100, 3));
        Due.same("leg 1 gets nothing by loop 0", x.leg(1, 5), 100000);
        corrections("by both loops", x, 0, 0, 25, -1, -75);
        Due.same("leg 1 is in both", x.leg(1, 8), 2);
    }

    private static void withoutMiss() {
        LevelLoops x = Make.legs(Make.chain(4, 0, 1), Make.leg(0, 2, 0, 2), Make.leg(1, 3, 100, 3));
        Due.same("loop 0 does not miss", x.loop(0, 7), 0);
        corrections("leg 1 is not free", x, 0, 0, 25, 0, -75);
        x.removeLeg(3);
        corrections("leg 1 is free", x, 0, 20, 20, -60);
    }

    private static void closingAlone() {
        LevelLoops x = Make.sameLegs(20);
        for (int leg = 2; leg < 20; leg++) {
            x.measure(leg, leg % 2 == 0 ? 9999 : -9999);
        }
        for (int leg = 2; leg < 20; leg++) {
            Due.same("all falls to leg " + leg, x.leg(leg, 5), leg % 2 == 0 ? 90001 : 109999);
            Due.same("spread", x.loop(leg - 1, 7), 9999);
        }
        Due.same("together", x.count(7), 18 * 9999);
        LevelLoops y = Make.legs(Make.chain(3, 0, 1), Make.leg(0, 2, 0, 2), Make.leg(2, 0, -33, 9));
        corrections("of three legs the closing one", y, 0, 0, 0, 33);
    }

    private static void roundedDown() {
        LevelLoops even = Make.legs(Make.chain(3, 0, 1), Make.leg(0, 2, 12, 4));
        corrections("without rests", even, 2, 2, -8);
        LevelLoops odd = Make.legs(Make.unknownMarks(3), Make.leg(0, 1, 0, 3), Make.leg(1, 2, 0, 5), Make.leg(0, 2, 7, 7));
        // of 15: 21 is 1 rest 6, 35 is 2 rest 5, 49 is 3 rest 4
        corrections("with rests", odd, 2, 2, -3);
        LevelLoops wide = Make.chain(10, -9999, 99);
        wide.addLeg(0, 9, 9999, 99);
        corrections("the greatest miss", wide, 9999, 9999, 9999, 9999, 9999, 9999, 9999, 9999, 9999, -9999);
        LevelLoops one = Make.legs(Make.chain(3, 0, 98), Make.leg(0, 2, 1, 99));
        corrections("less than the legs", one, 0, 0, -1);
        LevelLoops none = Make.legs(Make.chain(3, 0, 98), Make.leg(0, 2, 0, 99));
        corrections("nothing to spread", none, 0, 0, 0);
    }

    private static void leftOver() {
        LevelLoops x = Make.legs(Make.unknownMarks(3), Make.leg(0, 1, 0, 3), Make.leg(1, 2, 0, 5), Make.leg(0, 2, 1, 7));
        corrections("1 to the greatest rest", x, 0, 0, -1);
        x.measure(2, 2);
        // rests of 15: 6, 10, 14
        corrections("1 each to the two greatest", x, 0, 1, -1);
        x.measure(2, 4);
        // of 15: 12 is 0, 20 is 1 rest 5, 28 is 1 rest 13
        corrections("1 and 1 by rests of 12 and 13", x, 1, 1, -2);
        LevelLoops all = Make.chain(10, 0, 9);
        all.addLeg(0, 9, 9, 10);
        // of 91: each of nine 81, the closing leg 90: all but one get 1
        corrections("to all but one", all, 1, 1, 1, 1, 1, 1, 1, 1, 0, -1);
    }

    private static void sameRests() {
        LevelLoops x = Make.chain(10, 0, 7);
        x.addLeg(0, 9, 0, 7);
        for (int miss = 0; miss <= 20; miss++) {
            x.measure(9, miss);
            for (int leg = 0; leg < 10; leg++) {
                int share = miss / 10 + (leg < miss % 10 ? 1 : 0);
                Due.same("of " + miss + " to leg " + leg, x.leg(leg, 5), 100000 + (leg < 9 ? share : -share));
            }
        }
        // of 4: by 1 it is 0 rest 2, by 3 it is 1 rest 2
        LevelLoops short0 = Make.legs(Make.unknownMarks(2), Make.leg(0, 1, 0, 1), Make.leg(0, 1, 2, 3));
        corrections("the lower one is of the tree", short0, 1, -1);
        LevelLoops long0 = Make.legs(Make.unknownMarks(2), Make.leg(0, 1, 2, 3), Make.leg(0, 1, 0, 1));
        corrections("the lower one closes", long0, -2, 0);
    }

    private static void along() {
        LevelLoops x = Make.legs(Make.unknownMarks(3), Make.leg(1, 2, 0, 1), Make.leg(2, 0, 0, 1), Make.leg(0, 1, 8, 2));
        corrections("above 0: less", x, -2, -2, -4);
        x.measure(2, -8);
        corrections("below 0: greater", x, 2, 2, 4);
        x.measure(2, 0);
        corrections("without a miss", x, 0, 0, 0);
        x.measure(2, 1);
        corrections("above 0 by 1", x, 0, 0, -1);
        x.measure(2, -1);
        corrections("below 0 by 1", x, 0, 0, 1);
    }

    private static void against() {
        LevelLoops x = Make.legs(Make.unknownMarks(3), Make.leg(2, 1, 0, 1), Make.leg(0, 2, 0, 1), Make.leg(0, 1, 8, 2));
        corrections("above 0: greater", x, 2, 2, -4);
        x.measure(2, -8);
        corrections("below 0: less", x, -2, -2, 4);
        x.turn(0);
        corrections("one along", x, 2, -2, 4);
        x.turn(2);
        corrections("the closing one is always gone along", x, 2, -2, -4);
    }

    private static void inNoLoop() {
        LevelLoops tree = Make.chain(10, 9999, 99);
        corrections("a tree without loops", tree, 0, 0, 0, 0, 0, 0, 0, 0, 0);
        Due.same("together", tree.count(7), 0);
        LevelLoops x = Make.legs(Make.chain(4, 50, 1), Make.leg(1, 2, 90, 3));
        corrections("beside a loop", x, 0, 10, 0, -30);
        x.removeLeg(3);
        corrections("when the loop is gone", x, 0, 0, 0);
    }

    private static void closesToNothing() {
        for (int seed = 0; seed < 200; seed++) {
            Random random = new Random(seed);
            LevelLoops x = Make.unknownMarks(2 + random.nextInt(9));
            while (x.count(1) < 20) {
                int from = random.nextInt(x.count(0));
                int to = (from + 1 + random.nextInt(x.count(0) - 1)) % x.count(0);
                int most = seed % 2 == 0 ? 9999 : 5;
                x.addLeg(from, to, random.nextInt(2 * most + 1) - most, 1 + random.nextInt(seed % 3 == 0 ? 99 : 4));
            }
            for (int loop = 0; loop < x.count(2); loop++) {
                int leg = x.loop(loop, 0);
                int back = x.way(x.leg(leg, 1), x.leg(leg, 0), 2) - 1000000;
                Due.same("seed " + seed + ", loop " + loop + " misses", x.leg(leg, 4) - 100000 + back, 0);
            }
        }
        LevelLoops most = Make.chain(10, 9999, 1);
        for (int i = 9; i < 20; i++) {
            most.addLeg(0, 9, -9999, 99);
        }
        for (int loop = 0; loop < 11; loop++) {
            Due.same("the greatest misses", most.leg(9 + loop, 4) + most.way(9, 0, 2), 1100000);
        }
    }
}
