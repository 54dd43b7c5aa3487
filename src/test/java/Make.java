/** Surveys for the tests. */
final class Make {
    private Make() {
    }

    static LevelLoops marks(int... known) {
        LevelLoops x = new LevelLoops();
        for (int k : known) {
            x.addMark(k);
        }
        return x;
    }

    static LevelLoops unknownMarks(int number) {
        LevelLoops x = new LevelLoops();
        for (int i = 0; i < number; i++) {
            x.addMark(LevelLoops.NONE);
        }
        return x;
    }

    static LevelLoops legs(LevelLoops x, int[]... legs) {
        for (int[] l : legs) {
            x.addLeg(l[0], l[1], l[2], l[3]);
        }
        return x;
    }

    static int[] leg(int from, int to, int difference, int length) {
        return new int[] {from, to, difference, length};
    }

    static void type(LevelLoops x, String text) {
        for (int i = 0; i < text.length(); i++) {
            x.append(text.charAt(i));
        }
    }

    /** A triangle with a loop of length 18 that misses by 2. */
    static LevelLoops triangle() {
        return legs(marks(1000, -1, 1100), leg(0, 1, 50, 5), leg(1, 2, 51, 5), leg(0, 2, 103, 8));
    }

    static LevelLoops nothing() {
        return new LevelLoops();
    }

    /** Loops, six saved states that all differ, and a text: nothing is full but the saved states. */
    static LevelLoops busy() {
        LevelLoops x = legs(marks(1000, -1, 1100, 20), leg(0, 1, 50, 5), leg(1, 2, 51, 5), leg(0, 2, 103, 8),
                leg(2, 1, 40, 30));
        x.know(3, 21);
        x.set(0, 7);
        x.measure(3, -90);
        type(x, "m5;0-1:");
        return x;
    }

    /** 10 marks, 20 legs, 11 loops, six saved states, and a whole field book of 60 characters. */
    static LevelLoops full() {
        LevelLoops x = marks(0, -1, 99999, 500, -1, 40, -1, 7000, 1, 99999);
        for (int i = 0; i < 20; i++) {
            x.addLeg(i % 10, (i % 10 + 1 + i / 10 * 2) % 10, 37 * i - 300, 1 + 5 * i);
        }
        type(x, "m99999;m99998;m99997;m99996;m99995;m99994;m99993;0-1:-9999/9");
        return x;
    }

    /** A chain of legs through that many unknown marks, each leg of that difference and length. */
    static LevelLoops chain(int marks, int difference, int length) {
        LevelLoops x = unknownMarks(marks);
        for (int i = 0; i + 1 < marks; i++) {
            x.addLeg(i, i + 1, difference, length);
        }
        return x;
    }

    /** Legs from mark 0 to mark 1, with no difference and the length 1. */
    static LevelLoops sameLegs(int number) {
        LevelLoops x = unknownMarks(2);
        for (int i = 0; i < number; i++) {
            x.addLeg(0, 1, 0, 1);
        }
        return x;
    }

    static LevelLoops typed(LevelLoops x, String text) {
        type(x, text);
        return x;
    }
}
