import java.util.List;

/** Promises 23 to 26: without, fitting, goodShare, digest. */
public final class WouldBeTest {
    public static void main(String[] args) {
        without();
        fitting();
        goodShare();
        digestOfNothing();
        digestByTheList();
        digestOfShares();
        Due.end();
    }

    private static LevelLoops four() {
        return Make.legs(Make.marks(1000, -1, 1100, -1), Make.leg(0, 1, 50, 5), Make.leg(1, 2, 51, 5),
                Make.leg(0, 2, 103, 8), Make.leg(2, 1, 40, 30), Make.leg(3, 2, 6, 2));
    }

    private static void without() {
        LevelLoops x = four();
        Due.outOfBounds("without(5, 0)", x, () -> x.without(5, 0));
        Due.outOfBounds("without(-1, 4)", x, () -> x.without(-1, 4));
        Due.badArgument("without(0, 4)", x, () -> x.without(0, 4));
        Due.badArgument("without(0, -1)", x, () -> x.without(0, -1));
        long before = x.digest();
        Due.row("without 0", i -> x.without(0, i), 1, 1, 1, 91);
        Due.row("without 1", i -> x.without(1, i), 1, 1, 1, 103 + 40 - 50);
        Due.row("without 2", i -> x.without(2, i), 1, 1, 1, 91);
        Due.row("without 3", i -> x.without(3, i), 1, 0, 1, 2);
        Due.row("without 4", i -> x.without(4, i), 2, 1, 2, 93);
        Due.same("nothing is changed", x.digest(), before);
        Due.same("as it would be", x.removeLeg(1), 1);
        Due.same("misses then", x.count(6), 93);
    }

    private static void fitting() {
        LevelLoops x = four();
        Due.outOfBounds("fitting(5)", x, () -> x.fitting(5));
        Due.outOfBounds("fitting(-1)", x, () -> x.fitting(-1));
        long before = x.digest();
        // without 2: loop 3, 1 misses by 91, leg 1 gets 91 * 5 / 35 = 13 less
        Due.same("fitting(2)", x.fitting(2), 1000000 + 50 + 51 - 13);
        Due.same("fitting(3)", x.fitting(3), 1000000 - 51);
        Due.same("fitting(4)", x.fitting(4), -1);
        Due.same("nothing is changed", x.digest(), before);
        x.turn(2);
        Due.same("fitting of the leg turned", x.fitting(2), 1000000 - 88);
    }

    private static void goodShare() {
        LevelLoops x = Make.unknownMarks(2);
        Due.sameDouble("without loops", x.goodShare(), 1.0);
        Make.legs(x, Make.leg(0, 1, 0, 1), Make.leg(0, 1, 0, 2));
        Due.sameDouble("all good", x.goodShare(), 1.0);
        Make.legs(x, Make.leg(0, 1, 90, 2), Make.leg(0, 1, 1, 3));
        Due.sameDouble("two of three", x.goodShare(), 2 / 3.0);
        x.measure(0, 200);
        Due.sameDouble("none", x.goodShare(), 0.0);
    }

    private static long hash(Long... values) {
        return ByList.hash(List.of(values));
    }

    private static void digestOfNothing() {
        LevelLoops x = new LevelLoops();
        long one = Double.doubleToLongBits(1.0);
        Due.same("digest of a new object", x.digest(),
                hash(0L, 0L, 0L, 0L, 0L, 0L, 0L, 0L, 0L, 0L, 0L, 10L, 2L, 5L, -1L, -1L, one, 0L));
        Make.type(x, "m7");
        Due.same("digest with a text", x.digest(),
                hash(0L, 0L, 0L, 0L, 0L, 0L, 0L, 0L, 0L, 0L, 0L, 10L, 2L, 5L, -1L, -1L, one, 2L, 109L, 55L));
    }

    private static void digestByTheList() {
        LevelLoops x = four();
        x.append('!');
        Due.same("digest", x.digest(), ByList.digest(WouldBeTest::four, "!"));
    }

    private static LevelLoops loops(int loops, int bad) {
        LevelLoops x = Make.unknownMarks(2);
        for (int leg = 0; leg <= loops; leg++) {
            x.addLeg(0, 1, leg > 0 && leg <= bad ? 900 : 0, 1);
        }
        return x;
    }

    /** All shares that there can be, since their bits are reckoned. */
    private static void digestOfShares() {
        for (int number = 1; number <= 19; number++) {
            for (int bad = 0; bad <= number; bad++) {
                int all = number;
                int wrong = bad;
                LevelLoops x = loops(all, wrong);
                Due.sameDouble("share", x.goodShare(), (all - wrong) / (double) all);
                Due.same("digest, " + wrong + " of " + all + " are bad", x.digest(),
                        ByList.digest(() -> loops(all, wrong), ""));
            }
        }
    }
}
