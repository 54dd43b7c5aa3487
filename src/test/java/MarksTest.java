/** Promises 1 to 4: a new object, addMark, know, accept. */
public final class MarksTest {
    public static void main(String[] args) {
        newObject();
        addMark();
        know();
        accept();
        Due.end();
    }

    private static void newObject() {
        LevelLoops x = new LevelLoops();
        Due.row("new count", x::count, 0, 0, 0, 0, 0, 0, 0, 0, 0, 0, 0);
        Due.row("new setting", x::setting, 10, 2, 5);
        Due.same("new firstError", x.firstError(), 0);
        Due.same("new clearBuffer", x.clearBuffer(), 0);
        LevelLoops other = new LevelLoops();
        other.addMark(1);
        Due.same("objects of their own", x.count(0), 0);
    }

    private static void addMark() {
        LevelLoops x = new LevelLoops();
        Due.badArgument("addMark(-2)", x, () -> x.addMark(-2));
        Due.badArgument("addMark(100000)", x, () -> x.addMark(100000));
        Due.badArgument("addMark(least)", x, () -> x.addMark(Integer.MIN_VALUE));
        Due.same("addMark(0)", x.addMark(0), 0);
        Due.same("addMark(99999)", x.addMark(99999), 1);
        Due.same("addMark(NONE)", x.addMark(LevelLoops.NONE), 2);
        Due.same("known 0", x.mark(0, 0), 0);
        Due.same("known 99999", x.mark(1, 0), 99999);
        Due.same("not known", x.mark(2, 0), -1);
        for (int i = 3; i < 10; i++) {
            Due.same("addMark", x.addMark(i), i);
        }
        Due.badState("an 11th mark", x, () -> x.addMark(5));
        Due.badArgument("an 11th mark, out of range", x, () -> x.addMark(100000));
        Due.same("undo addMark", x.undo(), 5);
        Due.same("marks then", x.count(0), 9);
    }

    private static void know() {
        LevelLoops x = Make.marks(700, -1);
        Due.same("know(0, -1)", x.know(0, -1), 700);
        Due.same("know(0, 0)", x.know(0, 0), -1);
        Due.same("know(0, 99999)", x.know(0, 99999), 0);
        Due.same("know the same", x.know(0, 99999), 99999);
        Due.same("known", x.mark(0, 0), 99999);
        Due.same("saved", x.count(10), 6);
        Due.outOfBounds("know(2, 5)", x, () -> x.know(2, 5));
        Due.outOfBounds("know(-1, 5)", x, () -> x.know(-1, 5));
        Due.outOfBounds("know(2, -2)", x, () -> x.know(2, -2));
        Due.badArgument("know(1, -2)", x, () -> x.know(1, -2));
        Due.badArgument("know(1, 100000)", x, () -> x.know(1, 100000));
        x.undo();
        x.undo();
        Due.same("known behind undo", x.mark(0, 0), 0);
    }

    private static void accept() {
        LevelLoops x = Make.legs(Make.marks(1000, -1, 1120, -1), Make.leg(0, 1, 50, 5), Make.leg(1, 2, 51, 5));
        Due.outOfBounds("accept(4)", x, () -> x.accept(4));
        Due.outOfBounds("accept(-1)", x, () -> x.accept(-1));
        Due.badState("accept without a height", x, () -> x.accept(3));
        Due.same("accept(1)", x.accept(1), 1050);
        Due.same("known then", x.mark(1, 0), 1050);
        Due.same("accept of one that moved", x.accept(2), 1101);
        Due.same("known then", x.mark(2, 0), 1101);
        Due.row("it did not move then", i -> x.mark(2, i), 1101, 1101, 0, 0, 1, 0, 2);
        Due.same("undo accept", x.undo(), 5);
        Due.row("undone", i -> x.mark(2, i), 1120, 1101, 0, 1, 1, 0, 0);
        Due.same("the other one is still accepted", x.mark(1, 0), 1050);
        LevelLoops y = Make.legs(Make.marks(99990, -1, -1, -1), Make.leg(0, 1, 9, 1), Make.leg(0, 2, 10, 1),
                Make.leg(1, 3, -9999, 1));
        Due.same("accept 99999", y.accept(1), 99999);
        Due.badState("accept 100000", y, () -> y.accept(2));
        LevelLoops z = Make.legs(Make.marks(9, -1, -1), Make.leg(0, 1, -9, 1), Make.leg(0, 2, -10, 1));
        Due.same("accept 0", z.accept(1), 0);
        Due.badState("accept -1", z, () -> z.accept(2));
    }
}
