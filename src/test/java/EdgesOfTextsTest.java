/** The edges that the section "Input text" and the promises 10 to 13 name. */
public final class EdgesOfTextsTest {
    private static final String INPUT = "Input text";
    private static final String APPEND = "Promise 10: append";
    private static final String CLEAR = "Promise 11: clearBuffer";
    private static final String ERROR = "Promise 12: firstError";
    private static final String BOOK = "Promise 13: book";
    private static final String DIGITS = "0123456789";
    private static final String FULL = "m99999;m99998;m99997;m99996;m99995;m99994;m99993;0-1:-9999/9";

    public static void main(String[] args) {
        input();
        Edges.holds(APPEND, "- `code`: the character code, 33 to 126", EdgesOfTextsTest::codes);
        Edges.holds(APPEND, "Throws `IllegalArgumentException` if code is not 33 to 126", EdgesOfTextsTest::noCodes);
        Edges.holds(APPEND, "Throws `IllegalStateException` if the buffer has 60 characters",
                EdgesOfTextsTest::fullBuffer);
        Edges.holds(APPEND, "Returns the new length of the buffer.", EdgesOfTextsTest::newLengths);
        Edges.holds(CLEAR, "Returns the length that it had.", EdgesOfTextsTest::cleared);
        Edges.holds(ERROR, "Returns the index of the first character that is a syntax error",
                EdgesOfTextsTest::firstOfErrors);
        Edges.holds(ERROR, "the length of the buffer if there is none", EdgesOfTextsTest::noError);
        book();
        Edges.eachLineIsQuoted(APPEND);
        Edges.eachLineIsQuoted(CLEAR);
        Edges.eachLineIsQuoted(ERROR);
        Edges.eachLineIsQuoted(BOOK);
        Due.end();
    }

    private static void input() {
        Edges.holds(INPUT, "The buffer has at most 60 characters.", EdgesOfTextsTest::atMost60);
        Edges.holds(INPUT, "A field book as a text is one or more entries with \";\" between them",
                EdgesOfTextsTest::oneOrMore);
        Edges.holds(INPUT, "\"m\", or \"m\" and a known height, 0 to 99999 (a mark)", EdgesOfTextsTest::markEntries);
        Edges.holds(INPUT, "the digit of a mark, 0 to 9, \"-\", the digit of a mark", EdgesOfTextsTest::markDigits);
        Edges.holds(INPUT, "perhaps \"-\", a difference, 0 to 9999", EdgesOfTextsTest::differences);
        Edges.holds(INPUT, "and a length, 1 to 99 (a leg)", EdgesOfTextsTest::lengths);
        Edges.holds(INPUT, "Numbers are without leading zeros.", EdgesOfTextsTest::leadingZeros);
        Edges.holds(INPUT, "a character is a syntax error if no field book as a text", EdgesOfTextsTest::eachCharacter);
        Edges.holds(INPUT, "of any length, begins with the characters before it and this character",
                EdgesOfTextsTest::ofAnyLength);
        Edges.holds(INPUT, "Whether there are such marks is no matter of syntax", EdgesOfTextsTest::noMatterOfSyntax);
        Edges.holds(INPUT, "\"-0\" is 0", EdgesOfTextsTest::minus0);
    }

    private static void book() {
        Edges.holds(BOOK, "Does the entries in the buffer as addMark() and addLeg() do, one after the other",
                EdgesOfTextsTest::oneAfterTheOther);
        Edges.holds(BOOK, "up to the first one whose method would throw an exception", EdgesOfTextsTest::upToTheFirst);
        Edges.holds(BOOK, "and clears the buffer", EdgesOfTextsTest::clears);
        Edges.holds(BOOK, "Undoable, as one call", EdgesOfTextsTest::asOneCall);
        Edges.holds(BOOK, "also if none is done", EdgesOfTextsTest::noneDone);
        Edges.holds(BOOK, "Returns how many are done.", EdgesOfTextsTest::howMany);
        Edges.holds(BOOK, "Throws `IllegalArgumentException` if the buffer is not a complete field book as a text",
                EdgesOfTextsTest::notComplete);
    }

    /** The first error of a text; the buffer is left as it is. */
    private static int error(String text) {
        LevelLoops x = Make.typed(new LevelLoops(), text);
        int found = x.firstError();
        Due.same("firstError once more of " + text, x.firstError(), found);
        Due.same("length of " + text, x.clearBuffer(), text.length());
        return found;
    }

    private static void good(String... texts) {
        for (String text : texts) {
            Due.same("firstError of " + text, error(text), text.length());
        }
    }

    /** The last character is the error. */
    private static void wrongAtLast(String... texts) {
        for (String text : texts) {
            Due.same("firstError of " + text, error(text), text.length() - 1);
        }
    }

    /** A book of this text can be done with ten marks. */
    private static void complete(String... texts) {
        for (String text : texts) {
            Due.same("book of " + text, Make.typed(Make.unknownMarks(9), text).book(), text.split(";").length);
        }
    }

    private static void incomplete(String... texts) {
        for (String text : texts) {
            Edges.badArgument(() -> Make.typed(Make.unknownMarks(9), text), LevelLoops::book);
            Edges.badArgument(() -> {
                LevelLoops x = Make.busy();
                x.clearBuffer();
                return Make.typed(x, text);
            }, LevelLoops::book);
        }
    }

    // ---- the input text

    private static void atMost60() {
        LevelLoops x = new LevelLoops();
        for (int i = 1; i <= 60; i++) {
            Due.same("append", x.append('m'), i);
        }
        Due.badState("a 61st", x, () -> x.append('m'));
        Due.same("60 are cleared", x.clearBuffer(), 60);
        Due.same("there is room again", x.append('m'), 1);
    }

    private static void oneOrMore() {
        incomplete("", ";", ";m", "m;", "m;;m", "0-1:1/1;", ";0-1:1/1");
        complete("m", "0-1:1/1", "0-1:1/1;1-2:1/1", "m;0-1:1/1", "0-1:1/1;m");
        wrongAtLast(";", "m;;", "m1;;", "0-1:1/1;;", "m,", "m:", "m/");
        good("m;m;m;m;m;m;m;m;m;m;m;m;m;m;m;m;m;m;m;m;m;m;m;m;m;m;m;m;m;m;");
    }

    private static void markEntries() {
        LevelLoops x = Make.typed(new LevelLoops(), "m;m0;m9;m10;m9999;m10000;m99999");
        Due.same("book", x.book(), 7);
        Due.row("known", i -> x.mark(i, 0), -1, 0, 9, 10, 9999, 10000, 99999);
        wrongAtLast("m100000", "m999990", "m-", "M", "mm", "m1m", "n");
        good("m10000", "m99999");
    }

    private static void markDigits() {
        LevelLoops x = Make.typed(Make.unknownMarks(10), "0-9:1/1;9-0:2/1;4-5:3/1");
        Due.same("book", x.book(), 3);
        Due.row("former marks", leg -> x.leg(leg, 0), 0, 9, 4);
        Due.row("latter marks", leg -> x.leg(leg, 1), 9, 0, 5);
        good("0-0:", "9-9:", "0-9:", "9-0:");
        wrongAtLast("00", "10", "0-10", "0-00", "0--", "0-:", "-", "0:", "/", ":", "0-/");
    }

    private static void differences() {
        LevelLoops x = Make.typed(Make.unknownMarks(2), "0-1:0/1;0-1:-1/1;0-1:1/1;0-1:9999/1;0-1:-9999/1");
        Due.same("book", x.book(), 5);
        Due.row("differences", leg -> x.leg(leg, 3), 100000, 99999, 100001, 109999, 90001);
        wrongAtLast("0-1:10000", "0-1:-10000", "0-1:99990", "0-1:+", "0-1:--", "0-1:1-", "0-1:/", "0-1:-/");
        good("0-1:9999/", "0-1:-9999/", "0-1:1000/", "0-1:-1/");
    }

    private static void lengths() {
        LevelLoops x = Make.typed(Make.unknownMarks(2), "0-1:0/1;0-1:0/9;0-1:0/10;0-1:0/99");
        Due.same("book", x.book(), 4);
        Due.row("lengths", leg -> x.leg(leg, 2), 1, 9, 10, 99);
        wrongAtLast("0-1:0/0", "0-1:0/100", "0-1:0/990", "0-1:0/-", "0-1:0/;", "0-1:0/m");
        incomplete("0-1:0/", "0-1:0/0", "0-1:0/100");
    }

    private static void leadingZeros() {
        wrongAtLast("m00", "m01", "0-1:00", "0-1:01", "0-1:-00", "0-1:-09", "0-1:1/0");
        good("m0;", "m100", "0-1:0/", "0-1:-0/", "0-1:1000/", "0-1:1/10");
        incomplete("m00", "m01", "0-1:00/1", "0-1:01/1", "0-1:1/01");
        complete("m0", "0-1:0/1", "0-1:100/10");
    }

    /** Behind the start, exactly these of all characters that can be typed are no errors. */
    private static void goOn(String start, String allowed) {
        for (char c = 33; c <= 126; c++) {
            int want = allowed.indexOf(c) >= 0 ? start.length() + 1 : start.length();
            Due.same("firstError of " + start + c, error(start + c), want);
        }
    }

    private static void eachCharacter() {
        for (String before : new String[] {"", "m;", "m7;", "m0;", "8-9:-9999/99;", "0-0:0/1;m;m;"}) {
            goOn(before, "m" + DIGITS);
            goOn(before + "m", ";" + DIGITS);
            goOn(before + "m0", ";");
            goOn(before + "m1", ";" + DIGITS);
            goOn(before + "m9999", ";" + DIGITS);
            goOn(before + "m10000", ";");
            goOn(before + "m99999", ";");
            goOn(before + "0", "-");
            goOn(before + "9", "-");
            goOn(before + "0-", DIGITS);
            goOn(before + "0-0", ":");
            goOn(before + "9-9", ":");
            goOn(before + "9-9:", "-" + DIGITS);
            for (String sign : new String[] {"", "-"}) {
                goOn(before + "0-1:" + sign + "0", "/");
                goOn(before + "0-1:" + sign + "1", "/" + DIGITS);
                goOn(before + "0-1:" + sign + "999", "/" + DIGITS);
                goOn(before + "0-1:" + sign + "1000", "/");
                goOn(before + "0-1:" + sign + "9999", "/");
            }
            goOn(before + "0-1:-", DIGITS);
            goOn(before + "0-1:5/", "123456789");
            goOn(before + "0-1:5/1", ";" + DIGITS);
            goOn(before + "0-1:5/9", ";" + DIGITS);
            goOn(before + "0-1:-5/10", ";");
            goOn(before + "0-1:-5/99", ";");
        }
    }

    /** Whole entries with ";" behind each, so many characters. */
    private static String entries(int size) {
        return (size % 2 == 1 ? "m1;" : "") + "m;".repeat(size % 2 == 1 ? (size - 3) / 2 : size / 2);
    }

    /** That 60 characters are no whole field book is no error: there are longer ones that begin so. */
    private static void ofAnyLength() {
        for (int size = 0; size <= 60; size++) {
            good(FULL.substring(0, size));
        }
        for (String end : new String[] {"", "0", "0-", "0-1", "0-1:", "0-1:-", "0-1:-9", "0-1:9", "0-1:9/"}) {
            String text = entries(60 - end.length()) + end;
            Due.same("length of " + text, text.length(), 60);
            good(text);
            Edges.badArgument(() -> Make.typed(new LevelLoops(), text), LevelLoops::book);
        }
    }

    private static void noMatterOfSyntax() {
        good("0-1:1/1", "9-9:1/1", "5-5:0/99;m");
        LevelLoops none = Make.typed(new LevelLoops(), "0-1:1/1");
        Due.same("a leg without marks", none.book(), 0);
        LevelLoops same = Make.typed(Make.unknownMarks(10), "5-5:1/1;0-1:1/1");
        Due.same("a leg of one mark", same.book(), 0);
        Due.same("legs", same.count(1), 0);
    }

    private static void minus0() {
        LevelLoops x = Make.typed(Make.marks(7, -1), "0-1:-0/1");
        Due.same("book", x.book(), 1);
        Due.same("difference", x.leg(0, 3), 100000);
        Due.same("height", x.mark(1, 1), 7);
        LevelLoops y = Make.typed(Make.marks(7, -1), "0-1:0/1");
        y.book();
        Edges.alike("with -0 as with 0", x, y);
    }

    // ---- append, clearBuffer, firstError

    private static void codes() {
        LevelLoops x = new LevelLoops();
        Due.same("33", x.append(33), 1);
        Due.same("126", x.append(126), 2);
        LevelLoops all = new LevelLoops();
        for (int code = 33; code <= 92; code++) {
            Due.same("append", all.append(code), code - 32);
        }
        Due.same("digest of 33 to 92", all.digest(), ByList.digest(Make::nothing, textOf(33, 92)));
        all.clearBuffer();
        for (int code = 93; code <= 126; code++) {
            Due.same("append", all.append(code), code - 92);
        }
        Due.same("digest of 93 to 126", all.digest(), ByList.digest(Make::nothing, textOf(93, 126)));
    }

    private static String textOf(int first, int last) {
        StringBuilder text = new StringBuilder();
        for (int code = first; code <= last; code++) {
            text.append((char) code);
        }
        return text.toString();
    }

    private static void noCodes() {
        int[] codes = {32, 127, 128, 0, 10, -1, -33, 256 + 'm', 65536 + 'm', 'm' - 256, 'm' - 65536,
            Integer.MIN_VALUE, Integer.MAX_VALUE, Integer.MIN_VALUE + 'm'};
        for (int code : codes) {
            Edges.badArgument(Make::nothing, x -> x.append(code));
            Edges.badArgument(Make::busy, x -> x.append(code));
            Edges.badArgument(Make::full, x -> x.append(code));
        }
    }

    private static void fullBuffer() {
        Edges.badState(Make::full, x -> x.append(33));
        Edges.badState(Make::full, x -> x.append(126));
        LevelLoops x = Make.typed(new LevelLoops(), FULL.substring(0, 59));
        Due.same("the 60th", x.append('9'), 60);
        Edges.badState(() -> Make.typed(new LevelLoops(), FULL), y -> y.append(';'));
    }

    private static void newLengths() {
        LevelLoops x = new LevelLoops();
        Due.same("the first one", x.append('!'), 1);
        Due.same("behind an error", x.append('!'), 2);
        x.clearBuffer();
        Due.same("behind clearBuffer", x.append('m'), 1);
        x.book();
        Due.same("behind book", x.append('m'), 1);
    }

    private static void cleared() {
        Due.same("of nothing", new LevelLoops().clearBuffer(), 0);
        Due.same("of one", Make.typed(new LevelLoops(), "m").clearBuffer(), 1);
        LevelLoops x = Make.full();
        Due.same("of a full one", x.clearBuffer(), 60);
        Due.same("of a cleared one", x.clearBuffer(), 0);
        Due.same("nothing is saved for it", x.count(10), 6);
        Due.same("no error is left", x.firstError(), 0);
        LevelLoops y = Make.full();
        y.clearBuffer();
        Edges.alike("behind clearBuffer twice", x, y);
    }

    private static void firstOfErrors() {
        Due.same("the first character", error("!!"), 0);
        Due.same("a good one behind a wrong one", error(";m"), 0);
        Due.same("the second one", error("m!;m!"), 1);
        Due.same("the last of 60", error(FULL.substring(0, 59) + "!"), 59);
        Due.same("the last but one of 60", error(FULL.substring(0, 58) + "!9"), 58);
        Due.same("the first of 60", error("!" + FULL.substring(1)), 0);
        Due.same("a number that is too great", error("m123456;m1234567"), 6);
        Edges.looks(Make::full, LevelLoops::firstError);
        Edges.looks(Make::busy, LevelLoops::firstError);
    }

    private static void noError() {
        Due.same("of nothing", error(""), 0);
        Due.same("of one", error("m"), 1);
        Due.same("of a part of an entry", error("0-"), 2);
        Due.same("of 60", error(FULL), 60);
        Due.same("of 60 that are not complete", error(FULL.substring(0, 48) + ";m;m;m;0-1:-"), 60);
    }

    // ---- book

    private static void oneAfterTheOther() {
        LevelLoops x = Make.typed(new LevelLoops(), "m5;m;0-1:7/3;m9;2-1:-8/4;0-2:1/2");
        Due.same("book", x.book(), 6);
        LevelLoops y = new LevelLoops();
        y.addMark(5);
        y.addMark(LevelLoops.NONE);
        y.addLeg(0, 1, 7, 3);
        y.addMark(9);
        y.addLeg(2, 1, -8, 4);
        y.addLeg(0, 2, 1, 2);
        for (int i = 0; i < 3; i++) {
            int number = i;
            Due.row("mark " + i, what -> x.mark(number, what) - y.mark(number, what), 0, 0, 0, 0, 0, 0, 0);
            Due.row("leg " + i, what -> x.leg(number, what) - y.leg(number, what), 0, 0, 0, 0, 0, 0, 0, 0, 0, 0);
        }
        LevelLoops early = Make.typed(new LevelLoops(), "0-1:7/3;m;m");
        Due.same("a leg ahead of its marks", early.book(), 0);
        Due.same("marks", early.count(0), 0);
    }

    private static void stopsAt(LevelLoops x, String text, int done, int marks, int legs) {
        Due.same("book of " + text, Make.typed(x, text).book(), done);
        Due.row("marks and legs then", x::count, marks, legs);
        Due.same("the buffer then", x.clearBuffer(), 0);
    }

    private static void upToTheFirst() {
        stopsAt(Make.unknownMarks(10), "m;0-1:1/1", 0, 10, 0);
        stopsAt(Make.unknownMarks(9), "m;m;0-1:1/1", 1, 10, 0);
        stopsAt(Make.unknownMarks(9), "m;0-9:1/1", 2, 10, 1);
        stopsAt(Make.sameLegs(20), "0-1:1/1;m", 0, 2, 20);
        stopsAt(Make.sameLegs(19), "0-1:1/1;0-1:1/1;m", 1, 2, 20);
        stopsAt(Make.sameLegs(20), "m;0-1:1/1;m", 1, 3, 20);
        stopsAt(Make.unknownMarks(3), "3-0:1/1;0-1:1/1", 0, 3, 0);
        stopsAt(Make.unknownMarks(3), "0-3:1/1;0-1:1/1", 0, 3, 0);
        stopsAt(Make.unknownMarks(3), "2-0:1/1;0-2:1/1;9-0:1/1", 2, 3, 2);
        stopsAt(Make.unknownMarks(3), "0-2:1/1;1-1:1/1;0-1:1/1", 1, 3, 1);
        stopsAt(Make.unknownMarks(3), "0-0:1/1", 0, 3, 0);
        stopsAt(Make.unknownMarks(3), "0-1:1/1;2-2:1/1", 1, 3, 1);
    }

    private static void clears() {
        for (String text : new String[] {"m", "0-1:1/1", FULL}) {
            for (int marks = 0; marks <= 10; marks += 5) {
                LevelLoops x = Make.typed(Make.unknownMarks(marks), text);
                x.book();
                Due.badArgument("book of nothing", x, x::book);
                Due.same("no error is left", x.firstError(), 0);
                Due.same("nothing is left", x.clearBuffer(), 0);
            }
        }
    }

    private static void asOneCall() {
        LevelLoops x = Make.typed(new LevelLoops(), "m;m;m;m;m;m;m;m");
        x.book();
        Due.same("one saved state", x.count(10), 1);
        Due.same("undo", x.undo(), 0);
        Due.same("marks", x.count(0), 0);
        LevelLoops full = Make.full();
        full.removeLeg(19);
        full.removeLeg(0);
        full.clearBuffer();
        long before = full.digest();
        Make.typed(full, "0-1:1/1;1-2:1/1;2-3:1/1");
        Due.same("two fit", full.book(), 2);
        Due.same("the oldest state is dropped", full.count(10), 6);
        Due.same("undo", full.undo(), 5);
        Due.same("legs", full.count(1), 18);
        full.set(0, full.setting(0));
        Due.same("all else is as before", full.digest(), before);
    }

    private static void noneDone() {
        LevelLoops x = Make.typed(new LevelLoops(), "0-1:1/1");
        Due.same("none", x.book(), 0);
        Due.same("saved", x.count(10), 1);
        Due.same("undo", x.undo(), 0);
        LevelLoops full = Make.full();
        Due.same("none of a full one", full.book(), 0);
        Due.same("saved", full.count(10), 6);
        for (int left = 5; left >= 0; left--) {
            Due.same("undo", full.undo(), left);
            Due.same("legs: the oldest state was dropped", full.count(1), 15 + left);
        }
    }

    private static void howMany() {
        stopsAt(new LevelLoops(), "m", 1, 1, 0);
        stopsAt(new LevelLoops(), "m;m;m;m;m;m;m;m;m;m;0-1:1/1;0-1:1/1;0-1:1/1;0-1:1/1;0-1:1/1", 15, 10, 5);
        stopsAt(new LevelLoops(), "m;m;m;m;m;m;m;m;m;m;m;m;m;m;m;m;m;m;m;m;m;m;m;m;m;m;m;m;m;m0", 10, 10, 0);
        stopsAt(Make.unknownMarks(2), "0-1:1/1;".repeat(6) + "0-1:1111/11", 7, 2, 7);
        stopsAt(new LevelLoops(), FULL, 8, 7, 1);
    }

    private static void notComplete() {
        incomplete("", "m;", "m1;", "0-1:1/1;", ";", "0", "0-", "0-1", "0-1:", "0-1:-", "0-1:0", "0-1:-0", "0-1:9999",
                "0-1:9999/", "m;0-1:5/", "m;0", "!", "m!", "!m", "m;!", "m100000", "0-1:1/100", "0-1:1/0",
                FULL.substring(0, 59) + "!", "!" + FULL.substring(1), FULL.substring(0, 59) + ";",
                FULL.substring(0, 58));
        complete("m", "m0", "m99999", "0-1:0/1", "0-1:-9999/99");
        Due.same("a full one that is complete", Make.typed(new LevelLoops(), FULL).book(), 8);
    }
}
