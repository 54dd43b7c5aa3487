/** The edges that the promises 1 to 9 name. */
public final class EdgesOfChangesTest {
    private static final String NEW = "Promise 1: A new object";
    private static final String ADD_MARK = "Promise 2: addMark";
    private static final String KNOW = "Promise 3: know";
    private static final String ACCEPT = "Promise 4: accept";
    private static final String ADD_LEG = "Promise 5: addLeg";
    private static final String MEASURE = "Promise 6: measure";
    private static final String TURN = "Promise 7: turn";
    private static final String REMOVE = "Promise 8: removeLeg";
    private static final String SET = "Promise 9: set";
    private static final String NO_SUCH_MARK = "Throws `IndexOutOfBoundsException` if there is no such mark";
    private static final String NO_SUCH_LEG = "Throws `IndexOutOfBoundsException` if there is no such leg";
    private static final String KNOWN_RANGE = "Throws `IllegalArgumentException` if known is out of range";

    public static void main(String[] args) {
        Edges.holds(NEW, "Creates a survey without marks and legs, with an empty buffer.", EdgesOfChangesTest::newObject);
        marks();
        legs();
        others();
        String[] promises = {NEW, ADD_MARK, KNOW, ACCEPT, ADD_LEG, MEASURE, TURN, REMOVE, SET};
        for (String promise : promises) {
            Edges.eachLineIsQuoted(promise);
        }
        Due.end();
    }

    private static void marks() {
        Edges.holds(ADD_MARK, "- `known`: 0 to 99999, or NONE: its height is not known",
                EdgesOfChangesTest::addMarkKnown);
        Edges.holds(ADD_MARK, "Returns its number.", EdgesOfChangesTest::addMarkNumber);
        Edges.holds(ADD_MARK, KNOWN_RANGE, () -> {
            for (int number : Edges.outside(-1, 99999)) {
                Edges.badArgument(Make::nothing, x -> x.addMark(number));
                Edges.badArgument(Make::busy, x -> x.addMark(number));
                Edges.badArgument(Make::full, x -> x.addMark(number));
            }
        });
        Edges.holds(ADD_MARK, "Throws `IllegalStateException` if there are 10 marks", EdgesOfChangesTest::tenMarks);
        Edges.holds(KNOW, "- `mark`: its number", EdgesOfChangesTest::knowMark);
        Edges.holds(KNOW, "- `known`: 0 to 99999, or NONE", EdgesOfChangesTest::knowKnown);
        Edges.holds(KNOW, "Returns the previous one, NONE if it was not known.", EdgesOfChangesTest::knowPrevious);
        Edges.holds(KNOW, NO_SUCH_MARK, () -> Edges.noSuch(0, n -> x -> x.know(n, 5)));
        Edges.holds(KNOW, KNOWN_RANGE, () -> {
            Edges.outOfRange(-1, 99999, n -> x -> x.know(0, n));
            Edges.outOfRange(-1, 99999, n -> x -> x.know(3, n));
        });
        Edges.holds(ACCEPT, "- `mark`: its number", EdgesOfChangesTest::acceptMark);
        Edges.holds(ACCEPT, "Makes the height of a mark the one that is known.", EdgesOfChangesTest::acceptMakes);
        Edges.holds(ACCEPT, "Returns the known height then.", EdgesOfChangesTest::acceptThen);
        Edges.holds(ACCEPT, NO_SUCH_MARK, () -> Edges.noSuch(0, n -> x -> x.accept(n)));
        Edges.holds(ACCEPT, "Throws `IllegalStateException` if it has no height", EdgesOfChangesTest::acceptNoHeight);
        Edges.holds(ACCEPT, "or it would be out of 0 to 99999", EdgesOfChangesTest::acceptOut);
    }

    private static void legs() {
        Edges.holds(ADD_LEG, "- `from`: the number of a mark", EdgesOfChangesTest::addLegFrom);
        Edges.holds(ADD_LEG, "- `to`: the number of another mark", EdgesOfChangesTest::addLegTo);
        Edges.holds(ADD_LEG, "- `difference`: -9999 to 9999", EdgesOfChangesTest::addLegDifference);
        Edges.holds(ADD_LEG, "- `length`: 1 to 99", EdgesOfChangesTest::addLegLength);
        Edges.holds(ADD_LEG, "Returns its number.", EdgesOfChangesTest::addLegNumber);
        Edges.holds(ADD_LEG, NO_SUCH_MARK, EdgesOfChangesTest::addLegNoMark);
        Edges.holds(ADD_LEG, "Throws `IllegalArgumentException` if both marks are the same",
                EdgesOfChangesTest::addLegSame);
        Edges.holds(ADD_LEG, "or another argument is out of range", EdgesOfChangesTest::addLegRange);
        Edges.holds(ADD_LEG, "Throws `IllegalStateException` if there are 20 legs", EdgesOfChangesTest::twentyLegs);
        Edges.holds(MEASURE, "- `leg`: its number", EdgesOfChangesTest::measureLeg);
        Edges.holds(MEASURE, "- `difference`: -9999 to 9999", EdgesOfChangesTest::measureDifference);
        Edges.holds(MEASURE, "Returns by how much the size of the misses of all loops together is less then,"
                + " plus 1000000.", EdgesOfChangesTest::measureLess);
        Edges.holds(MEASURE, NO_SUCH_LEG, () -> Edges.noSuch(1, n -> x -> x.measure(n, 5)));
        Edges.holds(MEASURE, "Throws `IllegalArgumentException` if difference is out of range", () -> {
            Edges.outOfRange(-9999, 9999, n -> x -> x.measure(0, n));
            Edges.outOfRange(-9999, 9999, n -> x -> x.measure(3, n));
        });
    }

    private static void others() {
        Edges.holds(TURN, "- `leg`: its number", EdgesOfChangesTest::turnLeg);
        Edges.holds(TURN, "its marks are exchanged, its difference gets the other sign", EdgesOfChangesTest::turnSign);
        Edges.holds(TURN, "Returns its former mark then.", EdgesOfChangesTest::turnFormer);
        Edges.holds(TURN, NO_SUCH_LEG, () -> Edges.noSuch(1, n -> x -> x.turn(n)));
        Edges.holds(REMOVE, "- `leg`: its number", EdgesOfChangesTest::removeEach);
        Edges.holds(REMOVE, "Removes a leg.", EdgesOfChangesTest::removeFromTree);
        Edges.holds(REMOVE, "Returns how many loops there are then.", EdgesOfChangesTest::removeLoops);
        Edges.holds(REMOVE, NO_SUCH_LEG, () -> Edges.noSuch(1, n -> x -> x.removeLeg(n)));
        Edges.holds(SET, "- `setting`: 0 to 2", EdgesOfChangesTest::setSetting);
        Edges.holds(SET, "- `value`: the new value", EdgesOfChangesTest::setValue);
        Edges.holds(SET, "Returns the previous value.", EdgesOfChangesTest::setPrevious);
        Edges.holds(SET, "Throws `IndexOutOfBoundsException` if there is no such setting", () -> {
            for (int number : Edges.outside(0, 2)) {
                Edges.SURVEYS.forEach(maker -> Edges.outOfBounds(maker, x -> x.set(number, 5)));
            }
        });
        Edges.holds(SET, "Throws `IllegalArgumentException` if value is out of range", EdgesOfChangesTest::setRange);
    }

    private static void newObject() {
        LevelLoops x = new LevelLoops();
        Due.row("count", x::count, 0, 0, 0, 0, 0, 0, 0, 0, 0, 0, 0);
        Due.row("setting", x::setting, 10, 2, 5);
        Due.same("firstError", x.firstError(), 0);
        Due.same("worst", x.worst(), -1);
        Due.same("suspect", x.suspect(), -1);
        Due.sameDouble("goodShare", x.goodShare(), 1.0);
        Due.outOfBounds("mark", x, () -> x.mark(0, 0));
        Due.outOfBounds("leg", x, () -> x.leg(0, 0));
        Due.outOfBounds("loop", x, () -> x.loop(0, 0));
        Due.outOfBounds("way", x, () -> x.way(0, 0, 0));
        Due.outOfBounds("without", x, () -> x.without(0, 0));
        Due.outOfBounds("fitting", x, () -> x.fitting(0));
        Due.badArgument("book", x, x::book);
        Due.badState("undo", x, x::undo);
        Due.same("clearBuffer", x.clearBuffer(), 0);
        LevelLoops other = Make.full();
        other.set(0, 99);
        Edges.alike("beside another one", x, new LevelLoops());
    }

    // ---- marks

    private static void addMarkKnown() {
        LevelLoops x = new LevelLoops();
        x.addMark(0);
        x.addMark(99999);
        x.addMark(LevelLoops.NONE);
        x.addMark(1);
        x.addMark(99998);
        Due.row("known", i -> x.mark(i, 0), 0, 99999, -1, 1, 99998);
        Due.row("heights", i -> x.mark(i, 1), 0, 99999, -1000000, 1, 99998);
    }

    private static void addMarkNumber() {
        LevelLoops x = new LevelLoops();
        Due.same("the first one", x.addMark(5), 0);
        Due.same("the second one", x.addMark(5), 1);
        x.undo();
        Due.same("behind undo", x.addMark(5), 1);
        LevelLoops nine = Make.unknownMarks(9);
        Due.same("the last one", nine.addMark(5), 9);
    }

    private static void tenMarks() {
        Edges.badState(Make::full, x -> x.addMark(LevelLoops.NONE));
        Edges.badState(Make::full, x -> x.addMark(0));
        Edges.badState(() -> Make.unknownMarks(10), x -> x.addMark(99999));
        LevelLoops x = Make.unknownMarks(10);
        x.undo();
        Due.same("there is room behind undo", x.addMark(0), 9);
    }

    private static void knowMark() {
        for (int mark = 0; mark < 10; mark++) {
            LevelLoops x = Make.unknownMarks(10);
            x.know(mark, 77);
            for (int i = 0; i < 10; i++) {
                Due.same("known of " + i, x.mark(i, 0), i == mark ? 77 : -1);
            }
        }
    }

    private static void knowKnown() {
        for (int known : new int[] {LevelLoops.NONE, 0, 1, 99998, 99999}) {
            LevelLoops x = Make.marks(5);
            Due.same("know", x.know(0, known), 5);
            Due.same("known", x.mark(0, 0), known);
            Due.same("with a height", x.count(8), known == LevelLoops.NONE ? 0 : 1);
        }
    }

    private static void knowPrevious() {
        LevelLoops x = Make.marks(LevelLoops.NONE);
        Due.same("not known", x.know(0, LevelLoops.NONE), -1);
        Due.same("not known still", x.know(0, 0), -1);
        Due.same("0", x.know(0, 99999), 0);
        Due.same("99999", x.know(0, LevelLoops.NONE), 99999);
        Due.same("not known again", x.know(0, 3), -1);
    }

    private static void acceptMark() {
        for (int mark = 0; mark < 10; mark++) {
            LevelLoops x = Make.chain(10, 7, 1);
            x.know(5, 1000);
            x.accept(mark);
            for (int i = 0; i < 10; i++) {
                Due.same("known of " + i, x.mark(i, 0), i == mark || i == 5 ? 1000 + 7 * (i - 5) : -1);
            }
        }
    }

    /** The mark that is accepted agrees then, and is the base if it is the lowest one. */
    private static void acceptMakes() {
        LevelLoops x = Make.legs(Make.marks(900, 50, 50), Make.leg(0, 1, 0, 1), Make.leg(0, 2, 0, 1));
        Due.row("agreeing before", i -> x.mark(i, 6), 0, 1, 1);
        Due.row("base before", i -> x.mark(i, 5), 1, 1, 1);
        Due.same("moved before", x.count(5), 1);
        x.accept(0);
        Due.row("agreeing then", i -> x.mark(i, 6), 2, 2, 2);
        Due.row("base then", i -> x.mark(i, 5), 0, 0, 0);
        Due.same("moved then", x.count(5), 0);
        LevelLoops y = Make.legs(Make.marks(5, -1), Make.leg(0, 1, 4, 1));
        Due.same("without the leg there would be no height", y.fitting(0), -1);
        Due.same("but there is one", y.accept(1), 9);
    }

    private static void acceptThen() {
        LevelLoops x = Make.legs(Make.marks(9, -1, 50), Make.leg(0, 1, -9, 1), Make.leg(0, 2, 1, 1));
        Due.same("the base's own", x.accept(0), 9);
        Due.same("not known before", x.accept(1), 0);
        Due.same("known as another one before", x.accept(2), 10);
        Due.row("known then", i -> x.mark(i, 0), 9, 0, 10);
        Due.row("none moved then", i -> x.mark(i, 3), 0, 0, 0);
    }

    private static void acceptNoHeight() {
        Edges.badState(() -> Make.unknownMarks(1), x -> x.accept(0));
        Edges.badState(() -> Make.chain(10, 0, 1), x -> x.accept(9));
        Edges.badState(() -> Make.marks(5, -1), x -> x.accept(1));
        Edges.badState(() -> Make.legs(Make.marks(5, 5, -1, -1), Make.leg(0, 1, 0, 1), Make.leg(2, 3, 0, 1)),
                x -> x.accept(3));
        Due.same("one alone that is known", Make.marks(5).accept(0), 5);
    }

    private static LevelLoops twoMarks(int known, int difference) {
        return Make.legs(Make.marks(known, -1), Make.leg(0, 1, difference, 1));
    }

    private static void acceptOut() {
        Due.same("0", twoMarks(9999, -9999).accept(1), 0);
        Due.same("99999", twoMarks(90000, 9999).accept(1), 99999);
        Edges.badState(() -> twoMarks(9998, -9999), x -> x.accept(1));
        Edges.badState(() -> twoMarks(90001, 9999), x -> x.accept(1));
        Edges.badState(() -> twoMarks(0, -1), x -> x.accept(1));
        Edges.badState(() -> twoMarks(99999, 1), x -> x.accept(1));
        Edges.badState(() -> twoMarks(0, -9999), x -> x.accept(1));
        Edges.badState(() -> twoMarks(99999, 9999), x -> x.accept(1));
        Edges.badState(() -> {
            LevelLoops x = Make.chain(10, 9999, 99);
            x.know(0, 99999);
            return x;
        }, x -> x.accept(9));
        Edges.badState(() -> {
            LevelLoops x = Make.chain(10, 9999, 99);
            x.know(9, 0);
            return x;
        }, x -> x.accept(0));
        LevelLoops known = Make.legs(Make.marks(5, 0, 5), Make.leg(0, 1, -6, 1), Make.leg(0, 2, 0, 1));
        Due.same("known, its height is below 0", known.mark(1, 1), -1);
        Due.badState("though it is known", known, () -> known.accept(1));
    }

    // ---- legs

    private static void addLegFrom() {
        LevelLoops x = Make.unknownMarks(10);
        x.addLeg(0, 5, 1, 1);
        x.addLeg(9, 5, 1, 1);
        Due.row("former marks", leg -> x.leg(leg, 0), 0, 9);
    }

    private static void addLegTo() {
        LevelLoops x = Make.unknownMarks(10);
        x.addLeg(5, 0, 1, 1);
        x.addLeg(5, 9, 1, 1);
        x.addLeg(9, 0, 1, 1);
        x.addLeg(0, 9, 1, 1);
        Due.row("latter marks", leg -> x.leg(leg, 1), 0, 9, 0, 9);
    }

    private static void addLegDifference() {
        LevelLoops x = Make.unknownMarks(2);
        for (int difference : new int[] {-9999, -9998, -1, 0, 1, 9998, 9999}) {
            int leg = x.addLeg(0, 1, difference, 1);
            Due.same("difference", x.leg(leg, 3), 100000 + difference);
        }
    }

    private static void addLegLength() {
        LevelLoops x = Make.unknownMarks(2);
        for (int length : new int[] {1, 2, 98, 99}) {
            int leg = x.addLeg(0, 1, 0, length);
            Due.same("length", x.leg(leg, 2), length);
        }
    }

    private static void addLegNumber() {
        LevelLoops x = Make.unknownMarks(2);
        Due.same("the first one", x.addLeg(0, 1, 0, 1), 0);
        Due.same("the second one", x.addLeg(0, 1, 0, 1), 1);
        x.removeLeg(0);
        Due.same("behind removeLeg", x.addLeg(0, 1, 0, 1), 1);
        Due.same("the last one", Make.sameLegs(19).addLeg(0, 1, 0, 1), 19);
    }

    private static void addLegNoMark() {
        Edges.noSuch(0, n -> x -> x.addLeg(n, 0, 5, 5));
        Edges.noSuch(0, n -> x -> x.addLeg(0, n, 5, 5));
        Edges.noSuch(0, n -> x -> x.addLeg(n, n, 5, 5));
        Edges.outOfBounds(() -> Make.unknownMarks(1), x -> x.addLeg(0, 1, 0, 1));
        Edges.outOfBounds(() -> Make.unknownMarks(9), x -> x.addLeg(9, 0, 0, 1));
    }

    private static void addLegSame() {
        Edges.badArgument(() -> Make.unknownMarks(1), x -> x.addLeg(0, 0, 5, 5));
        for (int mark = 0; mark < 10; mark++) {
            int same = mark;
            Edges.badArgument(() -> Make.unknownMarks(10), x -> x.addLeg(same, same, 5, 5));
            Edges.badArgument(Make::full, x -> x.addLeg(same, same, 5, 5));
        }
    }

    private static void addLegRange() {
        Edges.outOfRange(-9999, 9999, n -> x -> x.addLeg(0, 1, n, 5));
        Edges.outOfRange(1, 99, n -> x -> x.addLeg(0, 1, 5, n));
        Edges.badArgument(Make::busy, x -> x.addLeg(0, 1, 10000, 0));
    }

    private static void twentyLegs() {
        Edges.badState(Make::full, x -> x.addLeg(0, 1, 5, 5));
        Edges.badState(Make::full, x -> x.addLeg(9, 0, -9999, 1));
        Edges.badState(Make::full, x -> x.addLeg(0, 9, 9999, 99));
        LevelLoops x = Make.full();
        x.undo();
        Due.same("there is room behind undo", x.addLeg(0, 1, 5, 5), 19);
    }

    private static void measureLeg() {
        for (int leg : new int[] {0, 1, 10, 18, 19}) {
            LevelLoops x = Make.sameLegs(20);
            x.measure(leg, 33);
            for (int i = 0; i < 20; i++) {
                Due.same("difference of " + i, x.leg(i, 3), i == leg ? 100033 : 100000);
            }
        }
    }

    private static void measureDifference() {
        LevelLoops x = Make.sameLegs(1);
        for (int difference : new int[] {-9999, 9999, 0, -9998, 9998, 1, -1}) {
            Due.same("without loops", x.measure(0, difference), 1000000);
            Due.same("difference", x.leg(0, 3), 100000 + difference);
            Due.row("what stays", i -> x.leg(0, i), 0, 1, 1);
        }
    }

    private static void measureLess() {
        LevelLoops x = Make.sameLegs(20);
        Due.same("of 19 loops each misses by 1 more", x.measure(0, -1), 1000000 - 19);
        Due.same("the same", x.measure(0, -1), 1000000);
        Due.same("from below to above by the same", x.measure(0, 1), 1000000);
        Due.same("each by 1 less", x.measure(0, 0), 1000000 + 19);
        LevelLoops most = Make.unknownMarks(2);
        for (int i = 0; i < 20; i++) {
            most.addLeg(0, 1, 9999, 1);
        }
        Due.same("by most more", most.measure(0, -9999), 1000000 - 19 * 19998);
        Due.same("by most less", most.measure(0, 9999), 1000000 + 19 * 19998);
        LevelLoops sizes = Make.legs(Make.unknownMarks(2), Make.leg(0, 1, 0, 1), Make.leg(0, 1, 9, 1),
                Make.leg(0, 1, -9, 1));
        Due.same("sizes do not make one another up", sizes.measure(0, 1), 1000000);
        Due.same("out of both", sizes.measure(0, 10), 1000000 + 18 - 20);
    }

    // ---- turn, removeLeg, set

    private static void turnLeg() {
        for (int leg : new int[] {0, 1, 10, 18, 19}) {
            LevelLoops x = Make.sameLegs(20);
            x.turn(leg);
            for (int i = 0; i < 20; i++) {
                Due.same("former mark of " + i, x.leg(i, 0), i == leg ? 1 : 0);
                Due.same("latter mark of " + i, x.leg(i, 1), i == leg ? 0 : 1);
            }
        }
    }

    private static void turnSign() {
        int[] differences = {9999, -9999, 0, 1, -1};
        for (int difference : differences) {
            LevelLoops x = Make.legs(Make.unknownMarks(10), Make.leg(9, 0, difference, 99));
            x.turn(0);
            Due.row("turned", i -> x.leg(0, i), 0, 9, 99, 100000 - difference);
            x.turn(0);
            Due.row("turned twice", i -> x.leg(0, i), 9, 0, 99, 100000 + difference);
        }
    }

    private static void turnFormer() {
        LevelLoops x = Make.legs(Make.unknownMarks(10), Make.leg(9, 0, 0, 1), Make.leg(3, 4, 0, 1));
        Due.same("the least", x.turn(0), 0);
        Due.same("the greatest", x.turn(0), 9);
        Due.same("another one", x.turn(1), 4);
    }

    private static void removeEach() {
        for (int leg = 0; leg < 20; leg++) {
            int gone = leg;
            LevelLoops x = Make.full();
            LevelLoops y = Make.full();
            x.removeLeg(leg);
            Due.same("legs", x.count(1), 19);
            for (int i = 0; i < 19; i++) {
                int now = i;
                int was = i < gone ? i : i + 1;
                Due.row("leg " + was + " without " + gone, n -> x.leg(now, n), y.leg(was, 0), y.leg(was, 1),
                        y.leg(was, 2), y.leg(was, 3));
            }
        }
    }

    /** What was joined by the leg is not joined any more, and nothing of it is left in what follows. */
    private static void removeFromTree() {
        for (int gone = 0; gone < 9; gone++) {
            LevelLoops x = Make.chain(10, 5, 1);
            x.know(9, 1000);
            x.removeLeg(gone);
            for (int mark = 0; mark < 10; mark++) {
                boolean below = mark <= gone;
                Due.same("net of " + mark, x.mark(mark, 2), below ? 0 : gone + 1);
                Due.same("height of " + mark, x.mark(mark, 1), below ? LevelLoops.NO_HEIGHT : 955 + 5 * mark);
                Due.same("legs to 9 from " + mark, x.way(mark, 9, 0), below ? -1 : 9 - mark);
                Due.same("legs to 0 from " + mark, x.way(mark, 0, 0), below ? mark : -1);
            }
        }
    }

    private static void removeLoops() {
        LevelLoops x = Make.sameLegs(20);
        for (int loops = 18; loops >= 0; loops--) {
            Due.same("loops", x.removeLeg(loops % 2 == 0 ? 0 : loops + 1), loops);
        }
        Due.same("a leg is left", x.count(1), 1);
        Due.same("the last leg", x.removeLeg(0), 0);
        LevelLoops tree = Make.chain(10, 0, 1);
        Due.same("a leg of a tree without loops", tree.removeLeg(4), 0);
        LevelLoops beside = Make.legs(Make.chain(3, 0, 1), Make.leg(0, 1, 0, 2));
        Due.same("a leg that is in no loop", beside.removeLeg(1), 1);
        Due.same("a leg of the tree that is in the loop", beside.removeLeg(0), 0);
    }

    private static void setSetting() {
        for (int setting = 0; setting < 3; setting++) {
            LevelLoops x = new LevelLoops();
            x.set(setting, 33);
            Due.row("settings", x::setting, setting == 0 ? 33 : 10, setting == 1 ? 33 : 2, setting == 2 ? 33 : 5);
        }
    }

    private static void setValue() {
        LevelLoops x = new LevelLoops();
        int[] most = {99, 99, 999};
        for (int setting = 0; setting < 3; setting++) {
            for (int value : new int[] {0, 1, most[setting] - 1, most[setting]}) {
                x.set(setting, value);
                Due.same("setting " + setting, x.setting(setting), value);
            }
        }
    }

    private static void setPrevious() {
        LevelLoops x = new LevelLoops();
        Due.same("0 at first", x.set(0, 99), 10);
        Due.same("0 then", x.set(0, 0), 99);
        Due.same("0 behind 0", x.set(0, 5), 0);
        Due.same("1 at first", x.set(1, 99), 2);
        Due.same("1 then", x.set(1, 99), 99);
        Due.same("2 at first", x.set(2, 999), 5);
        Due.same("2 then", x.set(2, 0), 999);
    }

    private static void setRange() {
        for (int setting = 0; setting < 3; setting++) {
            int same = setting;
            for (int value : Edges.outside(0, setting == 2 ? 999 : 99)) {
                Edges.SURVEYS.forEach(maker -> Edges.badArgument(maker, x -> x.set(same, value)));
            }
        }
    }
}
