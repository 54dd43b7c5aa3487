/** Promises 5 to 9: addLeg, measure, turn, removeLeg, set. */
public final class LegsTest {
    public static void main(String[] args) {
        addLeg();
        addLegRefused();
        measure();
        turn();
        removeLeg();
        set();
        Due.end();
    }

    private static void addLeg() {
        LevelLoops x = Make.unknownMarks(3);
        Due.same("addLeg", x.addLeg(0, 1, -9999, 1), 0);
        Due.same("addLeg", x.addLeg(2, 1, 9999, 99), 1);
        Due.same("a leg between the same marks", x.addLeg(1, 0, 7, 4), 2);
        Due.row("leg 0", i -> x.leg(0, i), 0, 1, 1, 90001);
        Due.row("leg 1", i -> x.leg(1, i), 2, 1, 99, 109999);
        Due.row("leg 2", i -> x.leg(2, i), 1, 0, 4, 100007);
        Due.same("undo addLeg", x.undo(), 5);
        Due.same("legs then", x.count(1), 2);
    }

    private static void addLegRefused() {
        LevelLoops x = Make.unknownMarks(3);
        Due.outOfBounds("from 3", x, () -> x.addLeg(3, 0, 0, 1));
        Due.outOfBounds("to -1", x, () -> x.addLeg(0, -1, 0, 1));
        Due.outOfBounds("both 3", x, () -> x.addLeg(3, 3, 10000, 100));
        Due.badArgument("the same marks", x, () -> x.addLeg(1, 1, 0, 1));
        Due.badArgument("difference 10000", x, () -> x.addLeg(0, 1, 10000, 1));
        Due.badArgument("difference -10000", x, () -> x.addLeg(0, 1, -10000, 1));
        Due.badArgument("length 0", x, () -> x.addLeg(0, 1, 0, 0));
        Due.badArgument("length 100", x, () -> x.addLeg(0, 1, 0, 100));
        for (int i = 0; i < 20; i++) {
            Due.same("addLeg", x.addLeg(i % 3, (i + 1) % 3, i, 1), i);
        }
        Due.badState("a 21st leg", x, () -> x.addLeg(0, 1, 0, 1));
        Due.badArgument("a 21st leg, of one mark", x, () -> x.addLeg(1, 1, 0, 1));
        Due.outOfBounds("a 21st leg, without a mark", x, () -> x.addLeg(0, 3, 0, 1));
    }

    private static void measure() {
        LevelLoops x = Make.triangle();
        Due.same("misses", x.count(6), 2);
        Due.same("measured better", x.measure(2, 101), 1000002);
        Due.same("measured worse", x.measure(2, 96), 999995);
        Due.same("measured the same", x.measure(2, 96), 1000000);
        Due.same("its difference", x.leg(2, 3), 100096);
        Due.outOfBounds("measure(3, 0)", x, () -> x.measure(3, 0));
        Due.outOfBounds("measure(-1, 10000)", x, () -> x.measure(-1, 10000));
        Due.badArgument("measure(0, 10000)", x, () -> x.measure(0, 10000));
        Due.badArgument("measure(0, -10000)", x, () -> x.measure(0, -10000));
        Due.same("measure(0, 9999)", x.measure(0, 9999), 1000000 + 5 - 9954);
        Due.same("measure(0, -9999)", x.measure(0, -9999), 1000000 + 9954 - 10044);
        x.undo();
        Due.same("undo measure", x.leg(0, 3), 109999);
    }

    private static void turn() {
        LevelLoops x = Make.triangle();
        Due.same("turn(2)", x.turn(2), 2);
        Due.row("leg 2", i -> x.leg(2, i), 2, 0, 8, 99897);
        Due.row("the loop", i -> x.loop(0, i), 2, 7, 18, 2, 2, 20, 0, 2);
        Due.same("turn(0)", x.turn(0), 1);
        Due.row("the loop", i -> x.loop(0, i), 2, 7, 18, 2, 2, 20, 0, 2);
        Due.same("turned back", x.turn(2), 0);
        Due.row("the loop", i -> x.loop(0, i), 2, 7, 18, 2, 1, 20, 0, 2);
        Due.outOfBounds("turn(3)", x, () -> x.turn(3));
        Due.outOfBounds("turn(-1)", x, () -> x.turn(-1));
        x.undo();
        Due.same("undo turn", x.leg(2, 0), 2);
    }

    private static void removeLeg() {
        LevelLoops x = Make.triangle();
        x.addLeg(0, 1, 60, 9);
        x.set(1, 0);
        Due.outOfBounds("removeLeg(4)", x, () -> x.removeLeg(4));
        Due.outOfBounds("removeLeg(-1)", x, () -> x.removeLeg(-1));
        Due.same("removeLeg(0)", x.removeLeg(0), 1);
        Due.row("leg 0 then", i -> x.leg(0, i), 1, 2, 5, 100051);
        Due.row("leg 2 then", i -> x.leg(2, i), 0, 1, 9, 100060);
        Due.same("removeLeg(2)", x.removeLeg(2), 0);
        Due.same("removeLeg(1)", x.removeLeg(1), 0);
        Due.same("legs", x.count(1), 1);
        x.undo();
        x.undo();
        Due.same("undo removeLeg", x.undo(), 3);
        Due.row("leg 0 again", i -> x.leg(0, i), 0, 1, 5, 100050);
    }

    private static void set() {
        LevelLoops x = new LevelLoops();
        Due.same("set(0, 99)", x.set(0, 99), 10);
        Due.same("set(0, 0)", x.set(0, 0), 99);
        Due.same("set(1, 99)", x.set(1, 99), 2);
        Due.same("set(2, 999)", x.set(2, 999), 5);
        Due.same("set(2, 0)", x.set(2, 0), 999);
        Due.row("settings", x::setting, 0, 99, 0);
        Due.outOfBounds("set(3, 0)", x, () -> x.set(3, 0));
        Due.outOfBounds("set(-1, -1)", x, () -> x.set(-1, -1));
        Due.badArgument("set(0, 100)", x, () -> x.set(0, 100));
        Due.badArgument("set(1, 100)", x, () -> x.set(1, 100));
        Due.badArgument("set(2, 1000)", x, () -> x.set(2, 1000));
        Due.badArgument("set(0, -1)", x, () -> x.set(0, -1));
        Due.badArgument("set(1, -1)", x, () -> x.set(1, -1));
        Due.badArgument("set(2, -1)", x, () -> x.set(2, -1));
        Due.same("undo set", x.undo(), 4);
        Due.same("exactness again", x.setting(2), 999);
    }
}
