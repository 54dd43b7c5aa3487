/** Promises 15 to 22: mark, leg, loop, way, count, setting, worst, suspect. */
public final class LooksTest {
    public static void main(String[] args) {
        refused();
        tree();
        spreading();
        spreadingInTurn();
        spreadingOfOne();
        heights();
        base();
        moved();
        way();
        allowed();
        counts();
        worst();
        suspect();
        Due.end();
    }

    private static void refused() {
        LevelLoops x = Make.triangle();
        Due.outOfBounds("mark(3, 0)", x, () -> x.mark(3, 0));
        Due.outOfBounds("mark(-1, 7)", x, () -> x.mark(-1, 7));
        Due.badArgument("mark(0, 7)", x, () -> x.mark(0, 7));
        Due.badArgument("mark(0, -1)", x, () -> x.mark(0, -1));
        Due.outOfBounds("leg(3, 0)", x, () -> x.leg(3, 0));
        Due.outOfBounds("leg(-1, 10)", x, () -> x.leg(-1, 10));
        Due.badArgument("leg(0, 10)", x, () -> x.leg(0, 10));
        Due.badArgument("leg(0, -1)", x, () -> x.leg(0, -1));
        Due.outOfBounds("loop(1, 0)", x, () -> x.loop(1, 0));
        Due.outOfBounds("loop(-1, 8)", x, () -> x.loop(-1, 8));
        Due.badArgument("loop(0, 8)", x, () -> x.loop(0, 8));
        Due.badArgument("loop(0, -1)", x, () -> x.loop(0, -1));
        Due.outOfBounds("way(3, 0, 0)", x, () -> x.way(3, 0, 0));
        Due.outOfBounds("way(0, -1, 4)", x, () -> x.way(0, -1, 4));
        Due.badArgument("way(0, 0, 4)", x, () -> x.way(0, 0, 4));
        Due.badArgument("way(0, 0, -1)", x, () -> x.way(0, 0, -1));
        Due.badArgument("count(11)", x, () -> x.count(11));
        Due.badArgument("count(-1)", x, () -> x.count(-1));
        Due.outOfBounds("setting(3)", x, () -> x.setting(3));
        Due.outOfBounds("setting(-1)", x, () -> x.setting(-1));
    }

    /** Of legs with the same length those with lower numbers come first; loops are numbered by their legs. */
    private static void tree() {
        LevelLoops x = Make.legs(Make.unknownMarks(4), Make.leg(2, 0, 1, 9), Make.leg(0, 1, 2, 4),
                Make.leg(1, 2, 3, 4), Make.leg(0, 2, 4, 4), Make.leg(1, 0, 5, 1));
        // 4 is the shortest; of 1, 2, 3 with the same length 1 would close a loop with it, 3 one with it and 2
        Due.row("in the tree", leg -> x.leg(leg, 6), 0, 0, 1, 0, 1);
        Due.row("closes", leg -> x.leg(leg, 7), 0, 1, -1, 2, -1);
        // loop 0 goes from 2 to 0 by 0, to 1 against 4, to 2 by 2
        Due.row("loop 0", i -> x.loop(0, i), 0, 1 | 4 | 16, 14, 5 - 1 - 3, 2);
        Due.row("loop 1", i -> x.loop(1, i), 1, 2 | 16, 5, 2 + 5, 1);
        Due.row("loop 2", i -> x.loop(2, i), 3, 8 | 4 | 16, 9, 4 - 3 + 5, 1);
        Due.same("nets", x.count(4), 2);
        Due.row("net of 2", i -> x.mark(2, 2), 0, 0);
        Due.same("net of 3", x.mark(3, 2), 3);
        Due.same("leg 4 is in loops", x.leg(4, 8), 3);
        Due.same("leg 0 is in loops", x.leg(0, 8), 1);
    }

    /** Shares by lengths, what is left over to the greatest rests, then to the lower numbers. */
    private static void spreading() {
        LevelLoops x = Make.legs(Make.unknownMarks(3), Make.leg(0, 1, 10, 2), Make.leg(2, 1, -20, 3),
                Make.leg(2, 0, -13, 4));
        // the miss: -13 + 10 + 20 = 17, shares of 17 * 2, 3, 4 / 9: 3 rest 7, 5 rest 6, 7 rest 5
        Due.row("the loop", i -> x.loop(0, i), 2, 7, 9, 17, 1, 11, 1, 17);
        Due.row("leg 0", i -> x.leg(0, i), 0, 1, 2, 100010, 100006, 99996, 1, -1, 1, 1);
        Due.row("leg 1", i -> x.leg(1, i), 2, 1, 3, 99980, 99986, 100006, 1, -1, 1, 1);
        Due.row("leg 2", i -> x.leg(2, i), 2, 0, 4, 99987, 99980, 99993, 0, 0, 1, 1);
        Due.same("corrections together", x.count(7), 17);
        x.measure(2, -47);
        Due.row("the loop", i -> x.loop(0, i), 2, 7, 9, 17, 2, 11, 1, 17);
        Due.same("correction of leg 0", x.leg(0, 5), 100004);
        Due.same("correction of leg 1", x.leg(1, 5), 99994);
        Due.same("correction of leg 2", x.leg(2, 5), 100007);
        LevelLoops y = Make.legs(Make.unknownMarks(3), Make.leg(0, 1, 0, 5), Make.leg(1, 2, 0, 5), Make.leg(0, 2, 2, 5));
        // the same rests: to the legs 0 and 1
        Due.same("leg 0", y.leg(0, 5), 100001);
        Due.same("leg 1", y.leg(1, 5), 100001);
        Due.same("leg 2", y.leg(2, 5), 100000);
    }

    private static void spreadingOfOne() {
        LevelLoops x = Make.legs(Make.unknownMarks(2), Make.leg(0, 1, 0, 1), Make.leg(0, 1, 1, 2));
        Due.row("a loop that misses by 1", i -> x.loop(0, i), 1, 3, 3, 1, 1, 5, 0, 1);
        Due.same("leg 0", x.leg(0, 5), 100000);
        Due.same("leg 1", x.leg(1, 5), 99999);
        x.measure(1, -1);
        Due.same("below", x.loop(0, 4), 2);
        Due.same("leg 1", x.leg(1, 5), 100001);
        // leg 0 has been in loop 0, so that leg 2 alone is free in loop 1
        x.addLeg(1, 0, 5, 1);
        x.measure(0, -4);
        Due.row("loop 1", i -> x.loop(1, i), 2, 5, 2, 1, 1, 4, 0, 2);
        Due.same("leg 2", x.leg(2, 5), 99998);
    }

    /** A leg that has been in a loop is not free any more, also if that loop did not miss. */
    private static void spreadingInTurn() {
        LevelLoops x = Make.legs(Make.unknownMarks(3), Make.leg(0, 1, 10, 1), Make.leg(1, 2, 10, 1),
                Make.leg(0, 1, 14, 3), Make.leg(0, 2, 30, 8));
        // loop 0 misses by 4: leg 0 gets 1 more, leg 2 gets 3 less; then loop 1 misses by 30 - 11 - 10 = 9
        Due.row("loop 0", i -> x.loop(0, i), 2, 5, 4, 4, 1, 6, 0, 4);
        Due.row("loop 1", i -> x.loop(1, i), 3, 11, 10, 10, 1, 12, 0, 9);
        Due.same("leg 0", x.leg(0, 5), 100001);
        Due.same("leg 1", x.leg(1, 5), 100001);
        Due.same("leg 2", x.leg(2, 5), 99997);
        Due.same("leg 3", x.leg(3, 5), 99992);
        x.measure(2, 10);
        Due.row("loop 0 without a miss", i -> x.loop(0, i), 2, 5, 4, 0, 0, 6, 0, 0);
        Due.same("leg 0", x.leg(0, 5), 100000);
        Due.same("leg 1", x.leg(1, 5), 100001);
        Due.same("leg 3", x.leg(3, 5), 99991);
    }

    private static void heights() {
        LevelLoops x = Make.triangle();
        x.addMark(-1);
        Due.row("mark 0", i -> x.mark(0, i), 1000, 1000, 0, 0, 2, 0, 1);
        Due.row("mark 1", i -> x.mark(1, i), -1, 1051, 0, 0, 2, 0, -1);
        Due.row("mark 2", i -> x.mark(2, i), 1100, 1102, 0, 0, 2, 0, 1);
        Due.row("mark 3", i -> x.mark(3, i), -1, LevelLoops.NO_HEIGHT, 3, 0, 0, -1, -1);
        Due.same("marks with heights", x.count(8), 3);
        x.know(0, -1);
        x.know(2, -1);
        Due.same("without a known mark", x.mark(0, 1), LevelLoops.NO_HEIGHT);
        Due.same("marks with heights", x.count(8), 0);
    }

    private static void base() {
        LevelLoops x = Make.legs(Make.marks(500, 1000, 1010, 1020, 900), Make.leg(0, 1, 10, 1), Make.leg(2, 1, -15, 1),
                Make.leg(2, 3, 6, 1));
        // by legs from 1: 2 is +15, 3 is +21, 0 is -10; known from 1: 10, 20: they agree if exactly 5
        int[] agreeing = {0, 2, 2, 2, 0};
        x.set(2, 5);
        Due.row("agreeing", i -> x.mark(i, 6), agreeing);
        Due.row("base", i -> x.mark(i, 5), 1, 1, 1, 1, 4);
        x.set(2, 4);
        // 1-2: 5, 1-3: 1, 2-3: 4
        Due.row("agreeing", i -> x.mark(i, 6), 0, 1, 1, 2, 0);
        Due.row("base", i -> x.mark(i, 5), 3, 3, 3, 3, 4);
        Due.row("heights", i -> x.mark(i, 1), 989, 999, 1014, 1020, 900);
        x.set(2, 0);
        Due.row("the lowest one of several", i -> x.mark(i, 5), 0, 0, 0, 0, 4);
    }

    private static void moved() {
        LevelLoops x = Make.legs(Make.marks(1000, 1100, 1200, -1), Make.leg(0, 1, 100, 1), Make.leg(0, 2, 200, 1));
        Due.row("none moved", i -> x.mark(i, 3), 0, 0, 0, 0);
        x.know(2, 1205);
        Due.same("by 5 is not moved", x.mark(2, 3), 0);
        x.know(2, 1206);
        Due.same("sank", x.mark(2, 3), 1);
        Due.same("its height", x.mark(2, 1), 1200);
        x.know(2, 1195);
        Due.same("by -5 is not moved", x.mark(2, 3), 0);
        x.know(2, 1194);
        Due.same("rose", x.mark(2, 3), 2);
        Due.same("moved", x.count(5), 1);
    }

    private static void way() {
        LevelLoops x = Make.legs(Make.unknownMarks(6), Make.leg(2, 1, 5, 3), Make.leg(1, 0, 7, 2),
                Make.leg(2, 3, -11, 4), Make.leg(4, 3, 1, 9));
        Due.row("0 to 4", i -> x.way(0, 4, i), 4, 18, 1000000 - 7 - 5 - 11 - 1, 1);
        Due.row("4 to 0", i -> x.way(4, 0, i), 4, 18, 1000024, 3);
        Due.row("1 to 3", i -> x.way(1, 3, i), 2, 7, 999984, 0);
        Due.row("2 to 4", i -> x.way(2, 4, i), 2, 13, 999988, 2);
        Due.row("2 to 2", i -> x.way(2, 2, i), 0, 0, 1000000, -1);
        Due.row("5 to 5", i -> x.way(5, 5, i), 0, 0, 1000000, -1);
        Due.row("0 to 5", i -> x.way(0, 5, i), -1, -1, -1, -1);
        LevelLoops y = Make.triangle();
        Due.row("by corrected legs", i -> y.way(2, 0, i), 2, 10, 999898, 1);
    }

    private static void allowed() {
        LevelLoops x = Make.legs(Make.unknownMarks(2), Make.leg(0, 1, 0, 4), Make.leg(0, 1, 8, 5));
        x.set(0, 7);
        // 7 * 9 / 10 + 2
        Due.row("just allowed", i -> x.loop(0, i), 1, 3, 9, 8, 1, 8, 0, 8);
        x.measure(1, -9);
        Due.row("just bad", i -> x.loop(0, i), 1, 3, 9, 9, 2, 8, 1, 9);
        x.set(1, 3);
        Due.row("more besides", i -> x.loop(0, i), 1, 3, 9, 9, 2, 9, 0, 9);
        x.set(0, 0);
        x.set(1, 0);
        Due.same("nothing is allowed", x.loop(0, 5), 0);
    }

    private static void counts() {
        LevelLoops x = Make.triangle();
        Due.row("count", x::count, 3, 3, 1, 0, 1, 0, 2, 2, 3, 18, 6);
        x.addMark(-1);
        x.addLeg(1, 0, 30, 20);
        // loop 1: 30 + 50 = 80, allowed 25 + 2; with corrections 81, all on leg 3
        Due.row("count", x::count, 4, 4, 2, 1, 2, 0, 82, 83, 3, 38, 6);
        x.know(2, 1200);
        Due.same("moved", x.count(5), 1);
    }

    private static void worst() {
        LevelLoops x = Make.unknownMarks(4);
        Due.same("without loops", x.worst(), -1);
        Make.legs(x, Make.leg(0, 1, 0, 1), Make.leg(0, 2, 0, 1), Make.leg(0, 3, 0, 1), Make.leg(0, 1, 1, 9),
                Make.leg(2, 0, 1, 9));
        Due.same("least below, the lowest one", x.worst(), 0);
        x.measure(4, -2);
        Due.same("least below", x.worst(), 1);
        x.addLeg(0, 3, 40, 29);
        Due.same("most above", x.worst(), 2);
        x.measure(3, 30);
        Due.same("allowed is less", x.worst(), 0);
    }

    private static void suspect() {
        LevelLoops x = Make.legs(Make.unknownMarks(4), Make.leg(0, 1, 0, 3), Make.leg(1, 2, 0, 4),
                Make.leg(2, 3, 0, 4), Make.leg(0, 2, 0, 9));
        Due.same("no bad loop", x.suspect(), -1);
        x.measure(0, 500);
        Due.same("the longest one", x.suspect(), 3);
        x.addLeg(0, 3, 0, 11);
        // both loops have 0 and 1
        Due.same("in both, the longest one", x.suspect(), 1);
        x.addLeg(1, 2, 0, 6);
        Due.same("in fewer good loops", x.suspect(), 0);
        x.addLeg(2, 3, 900, 7);
        Due.same("none is in all", x.suspect(), -1);
        LevelLoops y = Make.legs(Make.unknownMarks(3), Make.leg(0, 1, 500, 3), Make.leg(1, 2, 0, 3), Make.leg(2, 0, 0, 3));
        Due.same("the lowest one", y.suspect(), 0);
    }
}
