/** The edges that the section "Terms" names: marks and legs, tree and loops. */
public final class EdgesOfTermsTest {
    private static final String TERMS = "Terms";

    public static void main(String[] args) {
        Edges.holds(TERMS, "There are at most 10 marks", EdgesOfTermsTest::mostMarks);
        Edges.holds(TERMS, "numbered from 0 in the order in which they came. A mark", EdgesOfTermsTest::marksInOrder);
        Edges.holds(TERMS, "a height that is known, 0 to 99999, or none is", EdgesOfTermsTest::knownOrNot);
        Edges.holds(TERMS, "There are at most 20 legs", EdgesOfTermsTest::mostLegs);
        Edges.holds(TERMS, "numbered from 0 in the order in which they came (if", EdgesOfTermsTest::legsInOrder);
        Edges.holds(TERMS, "if one is removed, those behind it have numbers that are less by 1",
                EdgesOfTermsTest::behindTheRemoved);
        Edges.holds(TERMS, "A leg goes from a mark to another one", EdgesOfTermsTest::toAnotherOne);
        Edges.holds(TERMS, "it has a difference, -9999 to 9999", EdgesOfTermsTest::differences);
        Edges.holds(TERMS, "the height of the latter less that of the former, as measured",
                EdgesOfTermsTest::latterLessFormer);
        Edges.holds(TERMS, "and a length, 1 to 99", EdgesOfTermsTest::lengths);
        Edges.holds(TERMS, "There can be several legs between two marks.", EdgesOfTermsTest::severalLegs);
        tree();
        loops();
        Due.end();
    }

    private static void tree() {
        Edges.holds(TERMS, "Legs are gone through by ascending lengths", EdgesOfTermsTest::byLengths);
        Edges.holds(TERMS, "a leg belongs to the tree", EdgesOfTermsTest::lastLegs);
        Edges.holds(TERMS, "of several with the same length by ascending numbers", EdgesOfTermsTest::sameLengths);
        Edges.holds(TERMS, "a leg belongs to the tree if its marks are not joined by those of the tree so far.",
                EdgesOfTermsTest::joinedSoFar);
        Edges.holds(TERMS, "Marks that are joined by the tree are of one net.", EdgesOfTermsTest::oneNet);
    }

    private static void loops() {
        Edges.holds(TERMS, "Each other leg closes a loop: itself, and the legs of the tree on the way between its marks.",
                EdgesOfTermsTest::legsOfLoops);
        Edges.holds(TERMS, "The loops are numbered from 0 by ascending legs that close them.",
                EdgesOfTermsTest::numbersOfLoops);
        Edges.holds(TERMS, "from the former mark of the leg that closes it to the latter one, by this leg, and back by"
                + " the tree.", EdgesOfTermsTest::goneAlong);
        Edges.holds(TERMS, "that of a leg that is gone along against its direction with the other sign",
                EdgesOfTermsTest::againstItsDirection);
        Edges.holds(TERMS, "Its miss is the sum of the differences on this way", EdgesOfTermsTest::greatestMisses);
        Edges.holds(TERMS, "Its length is the sum of the lengths of its legs.", EdgesOfTermsTest::lengthsOfLoops);
        Edges.holds(TERMS, "divided by 10 and rounded down", EdgesOfTermsTest::roundedDown);
        Edges.holds(TERMS, "plus setting 1", EdgesOfTermsTest::besides);
        Edges.holds(TERMS, "if it misses by more, it is bad.", EdgesOfTermsTest::bad);
    }

    // ---- marks, legs

    private static void mostMarks() {
        LevelLoops x = new LevelLoops();
        for (int i = 0; i < 10; i++) {
            Due.same("mark " + i, x.addMark(LevelLoops.NONE), i);
        }
        Due.same("marks", x.count(0), 10);
        Edges.badState(() -> Make.unknownMarks(10), y -> y.addMark(LevelLoops.NONE));
        Edges.badState(Make::full, y -> y.addMark(0));
        LevelLoops nine = Make.typed(Make.unknownMarks(9), "m;m");
        Due.same("a book with the 10th and an 11th", nine.book(), 1);
        Due.same("marks by a book", nine.count(0), 10);
    }

    private static void marksInOrder() {
        LevelLoops x = new LevelLoops();
        for (int i = 0; i < 10; i++) {
            x.addMark(9 - i);
        }
        Due.row("known", i -> x.mark(i, 0), 9, 8, 7, 6, 5, 4, 3, 2, 1, 0);
        Due.outOfBounds("mark -1", x, () -> x.mark(-1, 0));
        Due.outOfBounds("mark 10", x, () -> x.mark(10, 0));
    }

    private static void knownOrNot() {
        LevelLoops x = Make.marks(0, 99999, LevelLoops.NONE);
        Due.row("0 is known", i -> x.mark(0, i), 0, 0, 0, 0, 0, 0, 0);
        Due.row("99999 is known", i -> x.mark(1, i), 99999, 99999, 1, 0, 0, 1, 0);
        Due.row("none is known", i -> x.mark(2, i), -1, -1000000, 2, 0, 0, -1, -1);
        Edges.outOfRange(-1, 99999, n -> y -> y.addMark(n));
        Edges.outOfRange(-1, 99999, n -> y -> y.know(0, n));
    }

    private static void mostLegs() {
        LevelLoops x = Make.unknownMarks(2);
        for (int i = 0; i < 20; i++) {
            Due.same("leg " + i, x.addLeg(0, 1, 0, 1), i);
        }
        Due.same("legs", x.count(1), 20);
        Edges.badState(() -> Make.sameLegs(20), y -> y.addLeg(0, 1, 0, 1));
        Edges.badState(Make::full, y -> y.addLeg(8, 9, -1, 99));
        LevelLoops y = Make.typed(Make.sameLegs(19), "0-1:0/1;0-1:0/1");
        Due.same("a book with the 20th and a 21st", y.book(), 1);
        Due.same("legs by a book", y.count(1), 20);
        Due.same("one is removed", y.removeLeg(19), 18);
        Due.same("there is room again", y.addLeg(0, 1, 0, 1), 19);
    }

    private static void legsInOrder() {
        LevelLoops x = new LevelLoops();
        x.addMark(0);
        x.addMark(0);
        for (int i = 0; i < 20; i++) {
            x.addLeg(0, 1, 100 - i, 99 - i);
        }
        for (int i = 0; i < 20; i++) {
            Due.same("difference of " + i, x.leg(i, 3), 100100 - i);
            Due.same("length of " + i, x.leg(i, 2), 99 - i);
        }
        Due.outOfBounds("leg -1", x, () -> x.leg(-1, 0));
        Due.outOfBounds("leg 20", x, () -> x.leg(20, 0));
    }

    private static void behindTheRemoved() {
        for (int gone : new int[] {0, 1, 10, 18, 19}) {
            LevelLoops x = Make.unknownMarks(10);
            for (int i = 0; i < 20; i++) {
                x.addLeg(i % 9, i % 9 + 1, i, 50 + i);
            }
            x.removeLeg(gone);
            for (int i = 0; i < 19; i++) {
                int was = i < gone ? i : i + 1;
                Due.row("leg " + i + " without " + gone, n -> x.leg(was - (was > gone ? 1 : 0), n),
                        was % 9, was % 9 + 1, 50 + was, 100000 + was);
            }
            Due.outOfBounds("leg 19", x, () -> x.leg(19, 0));
        }
        LevelLoops one = Make.chain(2, 7, 7);
        Due.same("the only one", one.removeLeg(0), 0);
        Due.same("legs", one.count(1), 0);
        Due.outOfBounds("leg 0", one, () -> one.leg(0, 0));
    }

    private static void toAnotherOne() {
        for (int from = 0; from < 10; from++) {
            for (int to = 0; to < 10; to++) {
                int one = from;
                int other = to;
                if (from == to) {
                    Edges.badArgument(() -> Make.unknownMarks(10), y -> y.addLeg(one, other, 0, 1));
                    continue;
                }
                LevelLoops x = Make.unknownMarks(10);
                Due.same("from " + from + " to " + to, x.addLeg(from, to, 0, 1), 0);
                Due.row("its marks", i -> x.leg(0, i), from, to);
            }
        }
    }

    private static void differences() {
        LevelLoops x = Make.legs(Make.unknownMarks(2), Make.leg(0, 1, -9999, 1), Make.leg(0, 1, 9999, 1));
        Due.same("the least", x.leg(0, 3), 90001);
        Due.same("the greatest", x.leg(1, 3), 109999);
        Edges.outOfRange(-9999, 9999, n -> y -> y.addLeg(0, 1, n, 1));
        Edges.outOfRange(-9999, 9999, n -> y -> y.measure(0, n));
    }

    private static void latterLessFormer() {
        LevelLoops x = Make.legs(Make.marks(10000, -1, -1, -1), Make.leg(0, 1, 9999, 1), Make.leg(0, 2, -9999, 1),
                Make.leg(3, 0, 1, 1));
        Due.row("heights", i -> x.mark(i, 1), 10000, 19999, 1, 9999);
    }

    private static void lengths() {
        LevelLoops x = Make.legs(Make.unknownMarks(2), Make.leg(0, 1, 0, 1), Make.leg(0, 1, 0, 99));
        Due.same("the least", x.leg(0, 2), 1);
        Due.same("the greatest", x.leg(1, 2), 99);
        Edges.outOfRange(1, 99, n -> y -> y.addLeg(0, 1, 0, n));
    }

    private static void severalLegs() {
        LevelLoops x = Make.unknownMarks(2);
        for (int i = 0; i < 20; i++) {
            Due.same("leg " + i, x.addLeg(i % 2, 1 - i % 2, i % 2 == 0 ? 5 : -5, 3), i);
        }
        Due.row("counts", x::count, 2, 20, 19, 0, 1, 0, 0, 0, 0, 60, 6);
        Due.same("at the mark", x.mark(1, 4), 20);
        Due.row("the last loop", i -> x.loop(18, i), 19, 1 << 19 | 1, 6, 0, 0, 8, 0, 0);
    }

    // ---- tree

    private static void byLengths() {
        LevelLoops x = Make.unknownMarks(2);
        for (int i = 0; i < 20; i++) {
            x.addLeg(0, 1, 0, 99 - i);
            for (int leg = 0; leg <= i; leg++) {
                Due.same(i + 1 + " legs, " + leg + " in the tree", x.leg(leg, 6), leg == i ? 1 : 0);
            }
        }
        LevelLoops y = Make.legs(Make.unknownMarks(3), Make.leg(0, 1, 0, 10), Make.leg(1, 2, 0, 99),
                Make.leg(0, 2, 0, 9), Make.leg(2, 1, 0, 98));
        Due.row("by lengths, not by signs", leg -> y.leg(leg, 6), 1, 0, 1, 0);
    }

    /** The last legs of 20 are the tree of three marks: all that follows goes by them. */
    private static void lastLegs() {
        LevelLoops x = Make.marks(-1, 100, -1);
        for (int leg = 0; leg < 20; leg++) {
            x.addLeg(leg % 2, 1 + leg % 2, leg < 18 ? 40 : 30, leg < 18 ? 9 : 1);
        }
        Due.row("the way", i -> x.way(0, 2, i), 2, 2, 1000000 + 62, 18);
        Due.row("the way back", i -> x.way(2, 0, i), 2, 2, 1000000 - 62, 19);
        Due.row("heights", i -> x.mark(i, 1), 69, 100, 131);
        Due.row("nets", i -> x.mark(i, 2), 0, 0, 0);
        Due.row("the first loop", i -> x.loop(0, i), 0, 1 << 18 | 1, 10, 10, 1, 12, 0, 10);
        Due.row("the last loop", i -> x.loop(17, i), 17, 1 << 19 | 1 << 17, 10, 10, 1, 12, 0, 9);
        Due.row("leg 18", i -> x.leg(18, i), 0, 1, 1, 100030, 100031, 100001, 1, -1, 9, 0);
        Due.row("leg 17", i -> x.leg(17, i), 1, 2, 9, 100040, 100031, 99991, 0, 17, 1, 0);
    }

    private static void sameLengths() {
        LevelLoops x = Make.sameLegs(20);
        for (int leg = 0; leg < 20; leg++) {
            Due.same(leg + " in the tree", x.leg(leg, 6), leg == 0 ? 1 : 0);
        }
        LevelLoops y = Make.legs(Make.unknownMarks(3), Make.leg(0, 1, 0, 8), Make.leg(0, 1, 0, 7),
                Make.leg(1, 2, 0, 8), Make.leg(2, 0, 0, 8), Make.leg(0, 1, 0, 7));
        Due.row("the lower number of each length", leg -> y.leg(leg, 6), 0, 1, 1, 0, 0);
    }

    private static void joinedSoFar() {
        LevelLoops x = Make.chain(10, 0, 50);
        for (int leg = 0; leg < 9; leg++) {
            Due.same("in the tree of all marks", x.leg(leg, 6), 1);
        }
        x.addLeg(9, 0, 0, 51);
        Due.same("joined by nine legs", x.leg(9, 6), 0);
        x.addLeg(0, 9, 0, 49);
        Due.same("not joined so far", x.leg(10, 6), 1);
        Due.same("joined then", x.leg(8, 6), 0);
        Due.same("not joined yet", x.leg(7, 6), 1);
        LevelLoops y = Make.legs(Make.unknownMarks(4), Make.leg(0, 1, 0, 1), Make.leg(2, 3, 0, 1), Make.leg(1, 2, 0, 9),
                Make.leg(3, 0, 0, 8));
        Due.row("two nets are joined", leg -> y.leg(leg, 6), 1, 1, 0, 1);
    }

    private static void oneNet() {
        LevelLoops alone = Make.unknownMarks(10);
        Due.row("each alone", i -> alone.mark(i, 2), 0, 1, 2, 3, 4, 5, 6, 7, 8, 9);
        Due.same("nets", alone.count(4), 10);
        LevelLoops all = Make.chain(10, 0, 1);
        Due.row("all joined", i -> all.mark(i, 2), 0, 0, 0, 0, 0, 0, 0, 0, 0, 0);
        Due.same("nets", all.count(4), 1);
        all.removeLeg(8);
        Due.row("but for the last", i -> all.mark(i, 2), 0, 0, 0, 0, 0, 0, 0, 0, 0, 9);
        all.removeLeg(0);
        Due.row("but for the first", i -> all.mark(i, 2), 0, 1, 1, 1, 1, 1, 1, 1, 1, 9);
        Due.same("nets", all.count(4), 3);
        Due.same("nets of nothing", new LevelLoops().count(4), 0);
    }

    // ---- loops

    private static void legsOfLoops() {
        LevelLoops x = Make.chain(10, 0, 1);
        Due.same("no loop by a tree of all marks", x.count(2), 0);
        x.addLeg(0, 9, 0, 9);
        Due.same("all legs", x.loop(0, 1), (1 << 10) - 1);
        x.addLeg(4, 5, 0, 9);
        Due.same("two legs", x.loop(1, 1), 1 << 10 | 1 << 4);
        x.addLeg(9, 7, 0, 9);
        Due.same("at the end of the tree", x.loop(2, 1), 1 << 11 | 1 << 8 | 1 << 7);
        x.addLeg(2, 6, 0, 9);
        Due.same("amidst the tree", x.loop(3, 1), 1 << 12 | 1 << 2 | 1 << 3 | 1 << 4 | 1 << 5);
    }

    private static void numbersOfLoops() {
        LevelLoops x = Make.legs(Make.chain(3, 0, 1), Make.leg(0, 1, 0, 99), Make.leg(1, 2, 0, 2), Make.leg(0, 2, 0, 50));
        Due.row("closed by", i -> x.loop(i, 0), 2, 3, 4);
        Due.outOfBounds("loop 3", x, () -> x.loop(3, 0));
        LevelLoops first = Make.legs(Make.unknownMarks(2), Make.leg(0, 1, 0, 2), Make.leg(0, 1, 0, 1));
        Due.same("closed by the first leg", first.loop(0, 0), 0);
        LevelLoops most = Make.sameLegs(20);
        Due.same("the first of 19", most.loop(0, 0), 1);
        Due.same("the last of 19", most.loop(18, 0), 19);
        Due.outOfBounds("loop 19", most, () -> most.loop(19, 0));
        Edges.outOfBounds(() -> Make.chain(10, 0, 1), y -> y.loop(0, 0));
    }

    private static void goneAlong() {
        LevelLoops x = Make.legs(Make.chain(3, 10, 1), Make.leg(0, 2, 27, 9), Make.leg(2, 0, -12, 9));
        Due.row("forth", i -> x.loop(0, i), 2, 7, 11, 7, 1);
        Due.row("home", i -> x.loop(1, i), 3, 11, 11, 8, 1);
        LevelLoops y = Make.legs(Make.unknownMarks(2), Make.leg(0, 1, 5, 1), Make.leg(0, 1, 4, 2), Make.leg(1, 0, -6, 2));
        Due.same("its own direction, below", y.loop(0, 4), 2);
        Due.same("its own direction, below too", y.loop(1, 4), 2);
    }

    private static void againstItsDirection() {
        for (int turned = 0; turned < 8; turned++) {
            LevelLoops x = new LevelLoops();
            for (int i = 0; i < 4; i++) {
                x.addMark(LevelLoops.NONE);
            }
            int miss = 1000;
            for (int leg = 0; leg < 3; leg++) {
                boolean against = (turned >> leg & 1) == 1;
                x.addLeg(against ? leg + 1 : leg, against ? leg : leg + 1, 1 << leg, 1);
                miss += against ? 1 << leg : -(1 << leg);
            }
            x.addLeg(0, 3, 1000, 5);
            Due.same("turned " + turned, x.loop(0, 3), miss);
            x.turn(3);
            Due.same("the size is the same", x.loop(0, 3), miss);
            Due.same("below", x.loop(0, 4), 2);
        }
    }

    private static void greatestMisses() {
        LevelLoops up = Make.chain(10, -9999, 1);
        up.addLeg(0, 9, 9999, 9);
        Due.row("above", i -> up.loop(0, i), 9, 1023, 18, 99990, 1, 20, 1, 99990);
        LevelLoops down = Make.chain(10, 9999, 1);
        down.addLeg(0, 9, -9999, 9);
        Due.row("below", i -> down.loop(0, i), 9, 1023, 18, 99990, 2, 20, 1, 99990);
        LevelLoops none = Make.chain(10, -9999, 1);
        none.addLeg(0, 9, 9999, 9);
        for (int leg = 0; leg < 9; leg++) {
            none.measure(leg, 1111);
        }
        Due.row("0", i -> none.loop(0, i), 9, 1023, 18, 0, 0, 20, 0, 0);
    }

    private static void lengthsOfLoops() {
        Due.same("the least", Make.sameLegs(2).loop(0, 2), 2);
        LevelLoops x = Make.chain(10, 0, 99);
        x.addLeg(0, 9, 0, 99);
        Due.same("the greatest", x.loop(0, 2), 990);
    }

    /** A loop of that length, for which setting 0 has that value and setting 1 is 0. */
    private static void allows(int value, int length, int allowed) {
        LevelLoops x = Make.legs(Make.unknownMarks(3), Make.leg(0, 1, 0, 1), Make.leg(1, 2, 0, (length - 1) / 2),
                Make.leg(2, 0, 0, length / 2));
        x.set(0, value);
        x.set(1, 0);
        Due.row(value + " for " + length, i -> x.loop(0, i + 5), allowed, 0);
        Due.same("its length", x.loop(0, 2), length);
    }

    private static void roundedDown() {
        allows(1, 9, 0);
        allows(1, 10, 1);
        allows(1, 19, 1);
        allows(1, 20, 2);
        allows(3, 13, 3);
        allows(10, 11, 11);
        allows(0, 99, 0);
        allows(99, 3, 29);
        allows(99, 199, 1970);
        LevelLoops x = Make.chain(10, 0, 99);
        x.addLeg(0, 9, 0, 99);
        x.set(0, 99);
        Due.same("the most by length", x.loop(0, 5), 9801 + 2);
    }

    private static void besides() {
        LevelLoops x = Make.sameLegs(2);
        x.set(0, 9);
        x.set(1, 0);
        Due.same("nothing besides", x.loop(0, 5), 1);
        x.set(1, 99);
        Due.same("the most besides", x.loop(0, 5), 100);
        x.set(0, 0);
        Due.same("by nothing else", x.loop(0, 5), 99);
        x.set(1, 0);
        Due.same("nothing at all", x.loop(0, 5), 0);
    }

    private static void bad() {
        LevelLoops x = Make.sameLegs(2);
        int[] misses = {4, 5, -4, -5, 0};
        int[] bad = {0, 1, 0, 1, 0};
        for (int i = 0; i < misses.length; i++) {
            x.measure(1, misses[i]);
            Due.same("allowed", x.loop(0, 5), 4);
            Due.same("bad with " + misses[i], x.loop(0, 6), bad[i]);
            Due.same("bad loops", x.count(3), bad[i]);
        }
        x.set(0, 0);
        x.set(1, 0);
        Due.same("nothing is allowed, none is missed", x.loop(0, 6), 0);
        x.measure(1, -1);
        Due.same("nothing is allowed, 1 is missed", x.loop(0, 6), 1);
    }
}
