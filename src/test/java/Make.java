/** Surveys for the tests. */
final class Make {
    private Make() {
    }

    static LevelLoops marks(int... known) {
        LevelLoops x = new LevelLoops();
        for (int k : known) {
            x.addMark(k);
        }
        return x;
    }

    static LevelLoops unknownMarks(int number) {
        LevelLoops x = new LevelLoops();
        for (int i = 0; i < number; i++) {
            x.addMark(LevelLoops.NONE);
        }
        return x;
    }

    static LevelLoops legs(LevelLoops x, int[]... legs) {
        for (int[] l : legs) {
            x.addLeg(l[0], l[1], l[2], l[3]);
        }
        return x;
    }

    static int[] leg(int from, int to, int difference, int length) {
        return new int[] {from, to, difference, length};
    }

    static void type(LevelLoops x, String text) {
        for (int i = 0; i < text.length(); i++) {
            x.append(text.charAt(i));
        }
    }

    /** A triangle with a loop of length 18 that misses by 2. */
    static LevelLoops triangle() {
        return legs(marks(1000, -1, 1100), leg(0, 1, 50, 5), leg(1, 2, 51, 5), leg(0, 2, 103, 8));
    }
}
