/** Promises 10 to 14: append, clearBuffer, firstError, book, undo. */
public final class TextsTest {
    public static void main(String[] args) {
        append();
        clearBuffer();
        firstError();
        book();
        bookOfSixty();
        bookInPart();
        bookRefused();
        undo();
        undoOfEach();
        Due.end();
    }

    private static void append() {
        LevelLoops x = new LevelLoops();
        Due.badArgument("append(32)", x, () -> x.append(32));
        Due.badArgument("append(127)", x, () -> x.append(127));
        Due.badArgument("append(-1)", x, () -> x.append(-1));
        Due.same("append(33)", x.append(33), 1);
        Due.same("append(126)", x.append(126), 2);
        for (int i = 3; i <= 60; i++) {
            Due.same("append", x.append('m'), i);
        }
        Due.badState("a 61st character", x, () -> x.append('m'));
        Due.badArgument("a 61st character, out of range", x, () -> x.append(10));
        Due.same("nothing is saved for it", x.count(10), 0);
    }

    private static void clearBuffer() {
        LevelLoops x = new LevelLoops();
        Make.type(x, "m12");
        Due.same("clearBuffer", x.clearBuffer(), 3);
        Due.same("clearBuffer again", x.clearBuffer(), 0);
        Due.same("append behind it", x.append('m'), 1);
        Due.same("nothing is saved for it", x.count(10), 0);
    }

    private static void errorAt(String text, int want) {
        LevelLoops x = new LevelLoops();
        Make.type(x, text);
        Due.same("firstError of " + text, x.firstError(), want);
        Due.same("the buffer stays", x.clearBuffer(), text.length());
    }

    private static void firstError() {
        String[] good = {"", "m", "m0", "m99999", "m;", "m0;m", "0", "0-", "0-1", "0-1:", "0-1:-", "0-1:-0", "0-1:0",
            "0-1:9999", "0-1:9999/", "0-1:0/1", "0-1:0/10", "0-1:0/99;", "3-3:5/5;9-8:-9999/99;m7",
            "m99999;m99999;m99999;m99999;m99999;m99999;m99999;m99999;0-1:0"};
        for (String text : good) {
            errorAt(text.length() > 60 ? text.substring(0, 60) : text, Math.min(60, text.length()));
        }
        String[] wrongAtLast = {";", "-", "M", "m-", "m00", "m01", "m100000", "m1m", "mm", "m;;", "01", "0:", "0--",
            "0-m", "0-10", "0-1-", "0-1:/", "0-1:--", "0-1:-/", "0-1:00", "0-1:-00", "0-1:10000", "0-1:05", "0-1:5;",
            "0-1:5-", "0-1:5/0", "0-1:5/-", "0-1:5/;", "0-1:5/100", "0-1:5/5/", "0-1:5/5m", "0-1:5/5;:", "x"};
        for (String text : wrongAtLast) {
            errorAt(text, text.length() - 1);
            errorAt(text + "m;!", text.length() - 1);
        }
    }

    private static void book() {
        LevelLoops x = new LevelLoops();
        Make.type(x, "m1000;m;m1100;0-1:50/5;1-2:-0/99;2-1:-51/5;0-2:103/8");
        Due.same("book", x.book(), 7);
        Due.same("the buffer is empty", x.clearBuffer(), 0);
        Due.same("one saved state", x.count(10), 1);
        Due.row("counts", x::count, 3, 4, 2);
        Due.row("leg 0", i -> x.leg(0, i), 0, 1, 5, 100050);
        Due.row("leg 1", i -> x.leg(1, i), 1, 2, 99, 100000);
        Due.row("leg 2", i -> x.leg(2, i), 2, 1, 5, 99949);
        Due.row("leg 3", i -> x.leg(3, i), 0, 2, 8, 100103);
        Due.same("known", x.mark(0, 0), 1000);
        Due.same("not known", x.mark(1, 0), -1);
        Make.type(x, "m0");
        Due.same("undo of a book", x.undo(), 0);
        Due.row("counts", x::count, 0, 0);
        Due.same("the buffer is no part of undo", x.clearBuffer(), 2);
    }

    private static void bookOfSixty() {
        String text = "m99999;m99998;m99997;m99996;m99995;m99994;m99993;0-1:-9999/9";
        LevelLoops x = new LevelLoops();
        Make.type(x, text);
        Due.same("a full buffer", text.length(), 60);
        Due.same("firstError of it", x.firstError(), 60);
        Due.same("book of it", x.book(), 8);
        Due.row("counts", x::count, 7, 1);
        Due.row("its leg", i -> x.leg(0, i), 0, 1, 9, 90001);
        Make.type(x, text);
        x.clearBuffer();
        Make.type(x, "m1");
        Due.same("nothing of the old text is left", x.book(), 1);
        Due.row("counts", x::count, 8, 1);
    }

    private static void bookInPart() {
        LevelLoops x = Make.unknownMarks(9);
        Make.type(x, "m5;m6;0-1:1/1");
        Due.same("book up to an 11th mark", x.book(), 1);
        Due.row("counts", x::count, 10, 0);
        Due.same("the buffer is empty", x.clearBuffer(), 0);
        Make.type(x, "m7");
        Due.same("book of nothing", x.book(), 0);
        Due.same("the buffer is empty", x.clearBuffer(), 0);
        Due.same("also this is saved", x.undo(), 5);
        Due.same("marks", x.count(0), 10);
        x.undo();
        Due.same("marks", x.count(0), 9);
        Make.type(x, "0-1:1/1;2-2:1/1;0-2:1/1");
        Due.same("book up to a leg of one mark", x.book(), 1);
        Make.type(x, "0-1:1/1;3-2:1/1;0-9:1/1;m");
        Due.same("book up to a mark that is not there", x.book(), 2);
        Due.row("counts", x::count, 9, 3);
        for (int i = 3; i < 19; i++) {
            x.addLeg(0, 1, 0, 1);
        }
        Make.type(x, "0-1:8/8;1-0:9/9");
        Due.same("book up to a 21st leg", x.book(), 1);
        Due.row("leg 19", i -> x.leg(19, i), 0, 1, 8, 100008);
    }

    private static void bookRefused() {
        String[] texts = {"", "m;", "m;m;", "0", "0-", "0-1", "0-1:", "0-1:-", "0-1:5", "0-1:5/", "0-1:5/5;", "m01",
            "m!", "m;!"};
        for (String text : texts) {
            LevelLoops x = Make.unknownMarks(2);
            Make.type(x, text);
            Due.badArgument("book of " + text, x, x::book);
            Due.same("the buffer stays", x.clearBuffer(), text.length());
            Due.row("counts", x::count, 2, 0);
        }
    }

    private static void undo() {
        LevelLoops x = new LevelLoops();
        Due.badState("undo of nothing", x, x::undo);
        for (int i = 0; i < 8; i++) {
            x.addMark(i);
            Due.same("saved states", x.count(10), Math.min(6, i + 1));
        }
        for (int i = 5; i >= 0; i--) {
            Due.same("undo", x.undo(), i);
            Due.same("marks then", x.count(0), i + 2);
        }
        Due.badState("undo of what was dropped", x, x::undo);
        Due.same("known", x.mark(1, 0), 1);
        x.set(0, 10);
        Due.same("saved, though nothing is changed", x.count(10), 1);
        x.append('m');
        Due.same("undo", x.undo(), 0);
        Due.same("the buffer stays", x.clearBuffer(), 1);
    }

    private static void undoOfEach() {
        LevelLoops x = Make.triangle();
        x.addLeg(0, 1, 90, 30);
        LevelLoops y = Make.triangle();
        y.addLeg(0, 1, 90, 30);
        x.know(1, 77);
        x.measure(1, 5);
        x.turn(0);
        x.removeLeg(0);
        x.set(2, 50);
        Make.type(x, "m;0-3:1/1");
        Due.same("book", x.book(), 2);
        for (int i = 0; i < 6; i++) {
            x.undo();
        }
        for (int i = 0; i < 6; i++) {
            y.set(0, 10);
        }
        while (y.count(10) > 0) {
            y.undo();
        }
        Due.same("all undone", x.digest(), y.digest());
    }
}
