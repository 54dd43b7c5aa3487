/** The edges that the sections "Heights" and "Settings" name. */
public final class EdgesOfHeightsTest {
    private static final String HEIGHTS = "Heights";
    private static final String SETTINGS = "Settings";

    public static void main(String[] args) {
        Edges.holds(HEIGHTS, "marks with known heights agree or not", EdgesOfHeightsTest::knownOnes);
        Edges.holds(HEIGHTS, "differ by at most setting 2", EdgesOfHeightsTest::agree);
        Edges.holds(HEIGHTS, "the one by the corrected legs of the tree", EdgesOfHeightsTest::byCorrectedLegs);
        Edges.holds(HEIGHTS, "In each net", EdgesOfHeightsTest::inEachNet);
        Edges.holds(HEIGHTS, "The base of a net is the known mark that agrees with most other ones of it",
                EdgesOfHeightsTest::base);
        Edges.holds(HEIGHTS, "of several the lowest one", EdgesOfHeightsTest::lowestBase);
        Edges.holds(HEIGHTS, "The height of each mark of the net is the known height of the base, and the corrected"
                + " differences on the way from it.", EdgesOfHeightsTest::heights);
        Edges.holds(HEIGHTS, "A net without a known mark has no base, and its marks have no heights.",
                EdgesOfHeightsTest::noBase);
        Edges.holds(HEIGHTS, "A mark moved if its known height and its height differ by more than setting 2",
                EdgesOfHeightsTest::moved);
        Edges.holds(HEIGHTS, "it sank if its height is less", EdgesOfHeightsTest::sank);
        Edges.holds(SETTINGS, "0 to 99 millimetres for 1000 metres, at first 10", () -> setting(0, 99, 10));
        Edges.holds(SETTINGS, "what is allowed besides, 0 to 99, at first 2", () -> setting(1, 99, 2));
        Edges.holds(SETTINGS, "how exact known heights are, 0 to 999, at first 5", () -> setting(2, 999, 5));
        Due.end();
    }

    /** Two known marks, the latter known by so much more than the leg tells. */
    private static LevelLoops knownMore(int exactness, int more) {
        LevelLoops x = Make.legs(Make.marks(5000, 5100 + more), Make.leg(0, 1, 100, 1));
        x.set(2, exactness);
        return x;
    }

    /** A mark that is not known agrees with none, though NONE is near the height 0. */
    private static void knownOnes() {
        LevelLoops x = Make.legs(Make.marks(-1, 0, -1, 1), Make.leg(0, 1, 1, 1), Make.leg(1, 2, -1, 1),
                Make.leg(1, 3, 1, 1));
        Due.row("agreeing", i -> x.mark(i, 6), -1, 1, -1, 1);
        Due.row("base", i -> x.mark(i, 5), 1, 1, 1, 1);
        Due.row("moved", i -> x.mark(i, 3), 0, 0, 0, 0);
        x.know(3, 500);
        Due.row("none agrees", i -> x.mark(i, 6), -1, 0, -1, 0);
    }

    private static void agree() {
        for (int exactness : new int[] {0, 1, 5, 998, 999}) {
            for (int sign = -1; sign <= 1; sign += 2) {
                LevelLoops most = knownMore(exactness, sign * exactness);
                Due.row("they agree by " + exactness, i -> most.mark(i, 6), 1, 1);
                LevelLoops more = knownMore(exactness, sign * (exactness + 1));
                Due.row("they don't by more than " + exactness, i -> more.mark(i, 6), 0, 0);
            }
        }
    }

    private static void byCorrectedLegs() {
        LevelLoops x = Make.legs(Make.marks(1000, 1106), Make.leg(0, 1, 100, 1), Make.leg(0, 1, 102, 1));
        Due.same("corrected", x.leg(0, 4), 100101);
        Due.row("they agree by the corrected leg", i -> x.mark(i, 6), 1, 1);
        x.removeLeg(1);
        Due.row("not by the leg as measured", i -> x.mark(i, 6), 0, 0);
    }

    private static void inEachNet() {
        LevelLoops x = Make.legs(Make.marks(100, 100, 100, 100, -1), Make.leg(0, 1, 0, 1), Make.leg(2, 3, 0, 1));
        Due.row("not with those of another net", i -> x.mark(i, 6), 1, 1, 1, 1, -1);
        Due.row("the base of each net", i -> x.mark(i, 5), 0, 0, 2, 2, -1);
        Due.same("marks with heights", x.count(8), 4);
    }

    private static void base() {
        LevelLoops ten = Make.chain(10, 0, 1);
        for (int mark = 0; mark < 9; mark++) {
            ten.know(mark, mark < 4 ? 100 : 200);
        }
        Due.row("agreeing", i -> ten.mark(i, 6), 3, 3, 3, 3, 4, 4, 4, 4, 4, -1);
        Due.row("base", i -> ten.mark(i, 5), 4, 4, 4, 4, 4, 4, 4, 4, 4, 4);
        ten.know(9, 200);
        Due.same("the last one agrees too", ten.mark(9, 6), 5);
        LevelLoops last = Make.chain(10, 0, 1);
        last.know(9, 7);
        Due.row("the only known mark", i -> last.mark(i, 5), 9, 9, 9, 9, 9, 9, 9, 9, 9, 9);
        Due.row("it agrees with no other one", i -> last.mark(i, 6), -1, -1, -1, -1, -1, -1, -1, -1, -1, 0);
        LevelLoops all = Make.chain(10, 0, 1);
        for (int mark = 0; mark < 10; mark++) {
            all.know(mark, 0);
        }
        Due.row("all agree", i -> all.mark(i, 6), 9, 9, 9, 9, 9, 9, 9, 9, 9, 9);
        Due.same("base of all", all.mark(9, 5), 0);
    }

    private static void lowestBase() {
        LevelLoops x = Make.legs(Make.marks(-1, 900, 100, 500), Make.leg(0, 1, 0, 1), Make.leg(0, 2, 0, 1),
                Make.leg(0, 3, 0, 1));
        Due.row("none agree: the lowest number, not the least height", i -> x.mark(i, 5), 1, 1, 1, 1);
        x.know(0, 300);
        Due.same("the lowest mark", x.mark(3, 5), 0);
        LevelLoops pairs = Make.legs(Make.marks(900, 100, 100, 900), Make.leg(0, 1, 0, 1), Make.leg(0, 2, 0, 1),
                Make.leg(0, 3, 0, 1));
        Due.row("two pairs", i -> pairs.mark(i, 5), 0, 0, 0, 0);
        pairs.know(0, 500);
        Due.row("one pair", i -> pairs.mark(i, 5), 1, 1, 1, 1);
    }

    private static void heights() {
        LevelLoops deep = Make.chain(10, -9999, 1);
        deep.know(0, 0);
        Due.row("down to the least", i -> deep.mark(i, 1), 0, -9999, -19998, -29997, -39996, -49995, -59994, -69993,
                -79992, -89991);
        LevelLoops high = Make.chain(10, -9999, 1);
        high.know(9, 99999);
        Due.row("up to the greatest", i -> high.mark(i, 1), 189990, 179991, 169992, 159993, 149994, 139995, 129996,
                119997, 109998, 99999);
        LevelLoops corrected = Make.legs(Make.marks(-1, 1000), Make.leg(0, 1, 10, 1), Make.leg(0, 1, 14, 1));
        Due.row("by corrected differences", i -> corrected.mark(i, 1), 988, 1000);
        Due.same("the base has its known height", knownMore(5, 300).mark(0, 1), 5000);
        Due.same("another known mark has it by legs", knownMore(5, 300).mark(1, 1), 5100);
    }

    private static void noBase() {
        LevelLoops x = Make.chain(3, 5, 1);
        for (int mark = 0; mark < 3; mark++) {
            Due.same("height", x.mark(mark, 1), LevelLoops.NO_HEIGHT);
            Due.same("moved", x.mark(mark, 3), 0);
            Due.same("base", x.mark(mark, 5), LevelLoops.NONE);
        }
        Due.same("marks with heights", x.count(8), 0);
        x.know(2, 0);
        Due.row("0 is known", i -> x.mark(i, 1), -10, -5, 0);
        Due.row("base", i -> x.mark(i, 5), 2, 2, 2);
        x.know(2, LevelLoops.NONE);
        Due.row("not known any more", i -> x.mark(i, 1), -1000000, -1000000, -1000000);
        x.removeLeg(0);
        x.know(0, 4);
        Due.row("only a part of the net is known", i -> x.mark(i, 1), 4, -1000000, -1000000);
    }

    private static void moved() {
        for (int exactness : new int[] {0, 5, 999}) {
            LevelLoops most = knownMore(exactness, exactness);
            Due.row("not moved by " + exactness, i -> most.mark(i, 3), 0, 0);
            LevelLoops least = knownMore(exactness, -exactness);
            Due.row("not moved by -" + exactness, i -> least.mark(i, 3), 0, 0);
            LevelLoops more = knownMore(exactness, exactness + 1);
            Due.row("moved by more than " + exactness, i -> more.mark(i, 3), 0, 1);
            Due.same("moved", more.count(5), 1);
            LevelLoops less = knownMore(exactness, -exactness - 1);
            Due.row("moved by less than -" + exactness, i -> less.mark(i, 3), 0, 2);
            Due.same("moved", less.count(5), 1);
        }
    }

    private static void sank() {
        LevelLoops x = Make.legs(Make.marks(50, 99999, 0, -1), Make.leg(0, 1, 0, 1), Make.leg(0, 2, 0, 1),
                Make.leg(0, 3, 900, 1));
        Due.row("base, sank, rose, not known", i -> x.mark(i, 3), 0, 1, 2, 0);
        x.set(2, 49);
        Due.row("by 50 with 49", i -> x.mark(i, 3), 0, 1, 2, 0);
        x.set(2, 50);
        Due.row("by 50 with 50", i -> x.mark(i, 3), 0, 1, 0, 0);
    }

    private static void setting(int setting, int most, int first) {
        LevelLoops x = new LevelLoops();
        Due.same("at first", x.setting(setting), first);
        Due.same("to the least", x.set(setting, 0), first);
        Due.same("the least", x.setting(setting), 0);
        Due.same("to the greatest", x.set(setting, most), 0);
        Due.same("the greatest", x.setting(setting), most);
        for (int other = 0; other < 3; other++) {
            Due.same("the others stay", x.setting(other), other == setting ? most : new int[] {10, 2, 5}[other]);
        }
        Edges.outOfRange(0, most, n -> y -> y.set(setting, n));
        for (int number : Edges.outside(0, most)) {
            Edges.badArgument(Make::nothing, y -> y.set(setting, number));
        }
    }
}
