import java.util.LinkedHashMap;
import java.util.Map;
import java.util.function.Supplier;

/** The edges that the sections "Undo", "Exceptions" and "What it is" and the promise 14 name. */
public final class EdgesOfUndoTest {
    private static final String UNDO = "Undo";
    private static final String EXCEPTIONS = "Exceptions";
    private static final String PROMISE = "Promise 14: undo";
    private static final int LEAST = Integer.MIN_VALUE;
    private static final int MOST = Integer.MAX_VALUE;

    public static void main(String[] args) {
        Edges.holds(UNDO, "Each method that is marked \"undoable\"", EdgesOfUndoTest::eachUndoable);
        Edges.holds(UNDO, "and does not throw an exception saves", EdgesOfUndoTest::notOnesThatThrow);
        Edges.holds(UNDO, "saves the state from before it", EdgesOfUndoTest::fromBefore);
        Edges.holds(UNDO, "also if it changes nothing", EdgesOfUndoTest::alsoIfNothing);
        Edges.holds(UNDO, "all but the buffer and the saved states", EdgesOfUndoTest::allButTheBuffer);
        Edges.holds(UNDO, "At most 6 states are saved", EdgesOfUndoTest::atMost6);
        Edges.holds(UNDO, "the oldest one is dropped first", EdgesOfUndoTest::oldestFirst);
        Edges.holds(EXCEPTIONS, "A call that throws an exception changes nothing.", EdgesOfUndoTest::changesNothing);
        Edges.holds(EXCEPTIONS, "If several exceptions apply, the one that is named first in the throws clause is"
                + " thrown.", EdgesOfUndoTest::namedFirst);
        Edges.holds(EXCEPTIONS, "`NONE = -1`: There is nothing to return.", EdgesOfUndoTest::none);
        Edges.holds(EXCEPTIONS, "`NO_HEIGHT = -1000000`: What is told of a height that there is not.",
                EdgesOfUndoTest::noHeight);
        Edges.holds("What it is", "An object is used for at most 512 calls after it has been made",
                EdgesOfUndoTest::at512Calls);
        Edges.holds(PROMISE, "Restores the latest saved state, and drops it.", EdgesOfUndoTest::latest);
        Edges.holds(PROMISE, "Returns how many saved states are left.", EdgesOfUndoTest::left);
        Edges.holds(PROMISE, "Throws `IllegalStateException` if there is none", EdgesOfUndoTest::thereIsNone);
        Edges.eachLineIsQuoted(PROMISE);
        Due.end();
    }

    /** Loops, and one saved state: that without anything. */
    private static LevelLoops booked() {
        LevelLoops x = Make.typed(new LevelLoops(), "m1000;m;m1100;0-1:50/5;1-2:51/5;0-2:103/8");
        x.book();
        return Make.typed(x, "m4;0-2:3/3;m");
    }

    private static Map<String, Edges.Call> undoable() {
        Map<String, Edges.Call> calls = new LinkedHashMap<>();
        calls.put("addMark", x -> x.addMark(7));
        calls.put("know", x -> x.know(1, 1060));
        calls.put("accept", x -> x.accept(1));
        calls.put("addLeg", x -> x.addLeg(2, 1, 9, 9));
        calls.put("measure", x -> x.measure(0, 90));
        calls.put("turn", x -> x.turn(2));
        calls.put("removeLeg", x -> x.removeLeg(0));
        calls.put("set 0", x -> x.set(0, 0));
        calls.put("set 1", x -> x.set(1, 0));
        calls.put("set 2", x -> x.set(2, 0));
        calls.put("book", LevelLoops::book);
        return calls;
    }

    // ---- undo

    private static void eachUndoable() {
        undoable().forEach((name, call) -> {
            LevelLoops x = booked();
            call.on(x);
            Due.same("saved by " + name, x.count(10), 2);
        });
        LevelLoops x = booked();
        x.append('m');
        x.firstError();
        x.clearBuffer();
        x.worst();
        x.suspect();
        x.without(0, 1);
        x.fitting(0);
        x.goodShare();
        x.digest();
        Due.same("nothing is saved by all others", x.count(10), 1);
        Due.same("undo takes one away", x.undo(), 0);
    }

    private static void notOnesThatThrow() {
        LevelLoops x = new LevelLoops();
        Due.badArgument("addMark(-2)", x, () -> x.addMark(-2));
        Due.outOfBounds("know(0, 0)", x, () -> x.know(0, 0));
        Due.outOfBounds("accept(0)", x, () -> x.accept(0));
        Due.outOfBounds("addLeg(0, 1, 0, 1)", x, () -> x.addLeg(0, 1, 0, 1));
        Due.outOfBounds("measure(0, 0)", x, () -> x.measure(0, 0));
        Due.outOfBounds("turn(0)", x, () -> x.turn(0));
        Due.outOfBounds("removeLeg(0)", x, () -> x.removeLeg(0));
        Due.badArgument("set(0, 100)", x, () -> x.set(0, 100));
        Due.badArgument("book()", x, x::book);
        Due.badState("undo()", x, x::undo);
        Due.same("saved", x.count(10), 0);
        LevelLoops y = Make.unknownMarks(1);
        Due.badState("accept of one without a height", y, () -> y.accept(0));
        Due.same("saved", y.count(10), 1);
    }

    private static void fromBefore() {
        undoable().forEach((name, call) -> {
            LevelLoops x = booked();
            call.on(x);
            Due.same("undo of " + name, x.undo(), 1);
            LevelLoops y = booked();
            if (name.equals("book")) {
                y.clearBuffer();
            }
            Edges.alike("behind " + name + " and undo", x, y);
        });
    }

    private static void alsoIfNothing() {
        Map<String, Edges.Call> calls = new LinkedHashMap<>();
        calls.put("know", x -> x.know(0, 1000));
        calls.put("know NONE", x -> x.know(1, LevelLoops.NONE));
        calls.put("accept of the base", x -> x.accept(0));
        calls.put("measure", x -> x.measure(1, 51));
        calls.put("set 0", x -> x.set(0, 10));
        calls.put("set 1", x -> x.set(1, 2));
        calls.put("set 2", x -> x.set(2, 5));
        calls.put("book of none", x -> {
            x.clearBuffer();
            return Make.typed(x, "3-0:1/1;m").book();
        });
        calls.forEach((name, call) -> {
            LevelLoops x = booked();
            call.on(x);
            Due.same("saved by " + name, x.count(10), 2);
            Due.same("undo of " + name, x.undo(), 1);
            LevelLoops y = booked();
            x.clearBuffer();
            y.clearBuffer();
            Edges.alike("behind " + name + " and undo", x, y);
        });
    }

    private static void allButTheBuffer() {
        LevelLoops x = new LevelLoops();
        Make.type(x, "m1;");
        x.addMark(4);
        Make.type(x, "m2");
        x.undo();
        Due.same("marks", x.count(0), 0);
        Due.same("what was typed stays", x.book(), 2);
        Due.row("known", i -> x.mark(i, 0), 1, 2);
        x.undo();
        Due.same("the text of the book does not come back", x.clearBuffer(), 0);
        x.set(0, 11);
        x.set(1, 12);
        x.set(2, 13);
        Make.type(x, "m3");
        x.clearBuffer();
        x.undo();
        Due.same("what was cleared does not come back", x.clearBuffer(), 0);
        Due.row("settings", x::setting, 11, 12, 5);
        x.undo();
        x.undo();
        Due.row("settings at first", x::setting, 10, 2, 5);
        Due.badState("undo does not save", x, x::undo);
    }

    private static void atMost6() {
        LevelLoops x = new LevelLoops();
        for (int call = 1; call <= 100; call++) {
            x.set(2, call);
            Due.same("saved by " + call + " calls", x.count(10), Math.min(6, call));
        }
        for (int left = 5; left >= 0; left--) {
            Due.same("left", x.undo(), left);
            Due.same("setting then", x.setting(2), 94 + left);
        }
        Edges.badState(() -> {
            LevelLoops y = new LevelLoops();
            for (int i = 0; i < 7; i++) {
                y.set(2, i);
            }
            for (int i = 0; i < 6; i++) {
                y.undo();
            }
            return y;
        }, LevelLoops::undo);
    }

    private static void oldestFirst() {
        for (int calls = 1; calls <= 20; calls++) {
            LevelLoops x = new LevelLoops();
            for (int i = 1; i <= calls; i++) {
                x.set(2, 100 + i);
            }
            int last = calls;
            while (x.count(10) > 0) {
                last--;
                x.undo();
                Due.same("of " + calls + " calls", x.setting(2), last == 0 ? 5 : 100 + last);
            }
            Due.same("the oldest one that is left", last, Math.max(0, calls - 6));
        }
        LevelLoops x = Make.full();
        x.undo();
        x.undo();
        x.turn(0);
        x.turn(1);
        x.turn(2);
        Due.same("two undone, three done: one is dropped", x.count(10), 6);
        for (int left = 5; left >= 0; left--) {
            x.undo();
        }
        Due.same("legs at the oldest one", x.count(1), 15);
    }

    private static void at512Calls() {
        LevelLoops x = new LevelLoops();
        x.addMark(3);
        x.addMark(-1);
        for (int call = 3; call <= 500; call++) {
            if (call % 2 == 1) {
                Due.same("addLeg is call " + call, x.addLeg(0, 1, call, 1), 0);
            } else {
                Due.same("removeLeg is call " + call, x.removeLeg(0), 0);
            }
        }
        for (int left = 5; left >= 0; left--) {
            Due.same("undo, calls are left", x.undo(), left);
        }
        Due.badState("calls 507 to 509: one between two digests", x, x::undo);
        Due.same("call 510", x.addLeg(1, 0, 2, 1), 0);
        Due.same("call 511", x.mark(1, 1), 1);
        Due.same("call 512", x.way(0, 1, 2), 999998);
    }

    // ---- undo itself

    private static void latest() {
        LevelLoops x = booked();
        x.removeLeg(0);
        x.turn(0);
        Due.same("former mark", x.leg(0, 0), 2);
        x.undo();
        Due.same("turned back", x.leg(0, 0), 1);
        Due.same("the leg is still removed", x.count(1), 2);
        x.measure(1, 9);
        x.undo();
        x.undo();
        Due.same("the leg is there again", x.count(1), 3);
        x.clearBuffer();
        x.undo();
        Edges.alike("behind all", x, new LevelLoops());
    }

    private static void left() {
        LevelLoops x = Make.busy();
        for (int left = 5; left >= 0; left--) {
            Due.same("left", x.undo(), left);
            Due.same("as count tells", x.count(10), left);
        }
    }

    private static void thereIsNone() {
        Edges.badState(Make::nothing, LevelLoops::undo);
        Edges.badState(() -> Make.typed(new LevelLoops(), "m"), LevelLoops::undo);
        Supplier<LevelLoops> undone = () -> {
            LevelLoops x = Make.full();
            while (x.count(10) > 0) {
                x.undo();
            }
            return x;
        };
        Edges.badState(undone, LevelLoops::undo);
        LevelLoops x = undone.get();
        x.turn(0);
        Due.same("there is one again", x.undo(), 0);
    }

    // ---- exceptions

    private static void changesNothing() {
        for (Supplier<LevelLoops> maker : Edges.SURVEYS) {
            Edges.badArgument(maker, x -> x.addMark(100000));
            Edges.outOfBounds(maker, x -> x.know(10, 5));
            Edges.outOfBounds(maker, x -> x.accept(10));
            Edges.outOfBounds(maker, x -> x.addLeg(0, 10, 5, 5));
            Edges.outOfBounds(maker, x -> x.measure(20, 5));
            Edges.outOfBounds(maker, x -> x.turn(20));
            Edges.outOfBounds(maker, x -> x.removeLeg(20));
            Edges.outOfBounds(maker, x -> x.set(3, 5));
            Edges.badArgument(maker, x -> x.set(2, 1000));
            Edges.badArgument(maker, x -> x.append(' '));
            Edges.outOfBounds(maker, x -> x.mark(10, 0));
            Edges.outOfBounds(maker, x -> x.leg(20, 0));
            Edges.outOfBounds(maker, x -> x.loop(19, 0));
            Edges.outOfBounds(maker, x -> x.way(0, 10, 0));
            Edges.badArgument(maker, x -> x.count(11));
            Edges.outOfBounds(maker, x -> x.setting(3));
            Edges.outOfBounds(maker, x -> x.without(20, 0));
            Edges.outOfBounds(maker, x -> x.fitting(20));
        }
        for (Supplier<LevelLoops> maker : Edges.SURVEYS.subList(1, 3)) {
            Edges.badArgument(maker, x -> x.know(0, 100000));
            Edges.badArgument(maker, x -> x.addLeg(0, 0, 5, 5));
            Edges.badArgument(maker, x -> x.addLeg(0, 1, 10000, 5));
            Edges.badArgument(maker, x -> x.addLeg(0, 1, 5, 100));
            Edges.badArgument(maker, x -> x.measure(0, 10000));
            Edges.badArgument(maker, x -> x.mark(0, 7));
            Edges.badArgument(maker, x -> x.leg(0, 10));
            Edges.badArgument(maker, x -> x.loop(0, 8));
            Edges.badArgument(maker, x -> x.way(0, 0, 4));
            Edges.badArgument(maker, x -> x.without(0, 4));
        }
        Edges.badState(Make::full, x -> x.addMark(5));
        Edges.badState(Make::full, x -> x.addLeg(0, 1, 5, 5));
        Edges.badState(Make::full, x -> x.append('m'));
        Edges.badArgument(Make::busy, LevelLoops::book);
        Edges.badState(Make::nothing, LevelLoops::undo);
    }

    private static void namedFirst() {
        Edges.badArgument(Make::full, x -> x.addMark(-2));
        Edges.badArgument(Make::full, x -> x.addMark(100000));
        Edges.badArgument(Make::full, x -> x.append(127));
        Edges.badArgument(Make::full, x -> x.append(32));
        Edges.badArgument(Make::full, x -> x.addLeg(1, 1, 0, 1));
        Edges.badArgument(Make::full, x -> x.addLeg(0, 1, 10000, 1));
        Edges.badArgument(Make::full, x -> x.addLeg(0, 1, 0, 0));
        Edges.outOfBounds(Make::full, x -> x.addLeg(0, 10, 0, 1));
        Edges.outOfBounds(Make::full, x -> x.addLeg(-1, 0, 0, 1));
        Edges.outOfBounds(Make::full, x -> x.addLeg(10, 10, 0, 1));
        for (Supplier<LevelLoops> maker : Edges.SURVEYS) {
            Edges.outOfBounds(maker, x -> x.know(10, -2));
            Edges.outOfBounds(maker, x -> x.know(-1, 100000));
            Edges.outOfBounds(maker, x -> x.accept(-1));
            Edges.outOfBounds(maker, x -> x.addLeg(10, 10, 0, 1));
            Edges.outOfBounds(maker, x -> x.addLeg(-1, -1, 10000, 100));
            Edges.outOfBounds(maker, x -> x.addLeg(0, 10, -10000, 1));
            Edges.outOfBounds(maker, x -> x.addLeg(10, 0, 0, 100));
            Edges.outOfBounds(maker, x -> x.measure(20, 10000));
            Edges.outOfBounds(maker, x -> x.measure(-1, -10000));
            Edges.outOfBounds(maker, x -> x.set(3, -1));
            Edges.outOfBounds(maker, x -> x.set(-1, 1000));
            Edges.outOfBounds(maker, x -> x.mark(10, 7));
            Edges.outOfBounds(maker, x -> x.mark(-1, -1));
            Edges.outOfBounds(maker, x -> x.leg(20, 10));
            Edges.outOfBounds(maker, x -> x.leg(-1, -1));
            Edges.outOfBounds(maker, x -> x.loop(19, 8));
            Edges.outOfBounds(maker, x -> x.loop(-1, -1));
            Edges.outOfBounds(maker, x -> x.way(10, 0, 4));
            Edges.outOfBounds(maker, x -> x.way(0, 10, -1));
            Edges.outOfBounds(maker, x -> x.way(LEAST, MOST, MOST));
            Edges.outOfBounds(maker, x -> x.without(20, 4));
            Edges.outOfBounds(maker, x -> x.without(-1, -1));
        }
    }

    private static void none() {
        Due.same("NONE", LevelLoops.NONE, -1);
        LevelLoops x = Make.unknownMarks(2);
        Due.same("known height", x.mark(0, 0), LevelLoops.NONE);
        Due.same("base", x.mark(0, 5), LevelLoops.NONE);
        Due.same("agreeing", x.mark(0, 6), LevelLoops.NONE);
        Due.same("way", x.way(0, 1, 0), LevelLoops.NONE);
        Due.same("worst", x.worst(), LevelLoops.NONE);
        Due.same("suspect", x.suspect(), LevelLoops.NONE);
        x.addLeg(0, 1, 5, 5);
        Due.same("loop of a leg of the tree", x.leg(0, 7), LevelLoops.NONE);
        Due.same("fitting", x.fitting(0), LevelLoops.NONE);
        Due.same("previous known height", x.know(0, 3), LevelLoops.NONE);
        Due.same("NONE can be told as a known height", x.know(0, LevelLoops.NONE), 3);
    }

    private static void noHeight() {
        Due.same("NO_HEIGHT", LevelLoops.NO_HEIGHT, -1000000);
        LevelLoops x = Make.marks(LevelLoops.NONE, 0);
        Due.same("no height", x.mark(0, 1), LevelLoops.NO_HEIGHT);
        Due.same("the height 0", x.mark(1, 1), 0);
    }
}
