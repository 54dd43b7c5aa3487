import java.lang.reflect.InvocationTargetException;
import java.lang.reflect.Method;
import java.util.Arrays;
import java.util.Random;

/** Runs of calls by fixed seeds, each call answered by the class and by the document's plain model. */
public final class ModelTest {
    private static final int RUNS = 150;
    private static final String ALPHABET = "mmm00123456789999--::://;;;x";
    private static final String[] PIECES = {"m", "m0", "m1200", "m99999", ";", "m;m", "0-1:", "1-2:-5/3", "-0/9",
        "9999/99", "3-4:", "2-3:7/10;", "4-4:1/1", "0-2:12/5;1-3:-3/4", "00", "10000", "/0", "!"};

    private final Random random;
    private final LevelLoops real = new LevelLoops();
    private final Plain plain = new Plain();
    private final StringBuilder told = new StringBuilder();
    private final boolean wide;
    private int calls = 0;

    private ModelTest(int seed) {
        random = new Random(seed);
        wide = seed % 3 == 0;
    }

    public static void main(String[] args) throws Exception {
        for (int seed = 0; seed < RUNS; seed++) {
            if (!new ModelTest(seed).run()) {
                break;
            }
        }
        Due.end();
    }

    private boolean run() throws Exception {
        int marks = random.nextInt(11);
        for (int i = 0; i < marks; i++) {
            if (!both("addMark", known())) {
                return false;
            }
        }
        int legs = random.nextInt(21);
        for (int i = 0; i < legs; i++) {
            if (!addLeg()) {
                return false;
            }
        }
        while (calls < 300) {
            if (!step()) {
                return false;
            }
        }
        return true;
    }

    private boolean step() throws Exception {
        switch (random.nextInt(30)) {
            case 0: return both("addMark", known());
            case 1: return both("know", mark(), known());
            case 2: return both("accept", mark());
            case 3: case 4: case 5: return addLeg();
            case 6: case 7: return both("measure", leg(), difference());
            case 8: return both("turn", leg());
            case 9: return both("removeLeg", leg());
            case 10: return both("set", odd(3), random.nextInt(8) == 0 ? odd(1100) : odd(40));
            case 11: return both("append", 30 + random.nextInt(100));
            case 12: case 13: return type(PIECES[random.nextInt(PIECES.length)]);
            case 14: return type("" + ALPHABET.charAt(random.nextInt(ALPHABET.length())));
            case 15: return random.nextInt(4) > 0 || both("clearBuffer");
            case 16: return both("firstError");
            case 17: return both("book");
            case 18: return both("undo");
            case 19: return both("mark", mark(), odd(7));
            case 20: return both("leg", leg(), odd(10));
            case 21: return both("loop", odd(12), odd(8));
            case 22: return both("way", mark(), mark(), odd(4));
            case 23: return both("count", odd(11));
            case 24: return both("setting", odd(3));
            case 25: return both("worst");
            case 26: return both("suspect");
            case 27: return both("without", leg(), odd(4));
            case 28: return both("fitting", leg());
            default: return both("goodShare") && (random.nextInt(4) > 0 || both("digest"));
        }
    }

    private boolean type(String text) throws Exception {
        for (int i = 0; i < text.length(); i++) {
            if (!both("append", text.charAt(i))) {
                return false;
            }
        }
        return random.nextInt(3) > 0 || both("book");
    }

    private boolean addLeg() throws Exception {
        return both("addLeg", mark(), mark(), difference(), length());
    }

    /** 0 to below the bound, seldom a little outside. */
    private int odd(int bound) {
        return random.nextInt(20) == 0 ? (random.nextBoolean() ? -1 : bound) : random.nextInt(bound);
    }

    private int mark() {
        return random.nextInt(30) == 0 ? odd(10) : random.nextInt(Math.max(1, plain.count(0)));
    }

    private int leg() {
        return random.nextInt(30) == 0 ? odd(20) : random.nextInt(Math.max(1, plain.count(1)));
    }

    private int known() {
        int[] some = {-1, -1, 1000, 1000 + random.nextInt(60), random.nextInt(100000), 0, 99999, -2, 100000};
        return some[random.nextInt(random.nextInt(4) == 0 ? 9 : 4)];
    }

    private int difference() {
        int[] far = {9999, -9999, 10000, -10000, random.nextInt(20001) - 10000};
        return wide ? far[random.nextInt(5)] : random.nextInt(61) - 30;
    }

    private int length() {
        int[] some = {1 + random.nextInt(9), 1 + random.nextInt(99), 1, 99, 0, 100};
        return some[random.nextInt(random.nextInt(8) == 0 ? 6 : 2)];
    }

    private boolean both(String name, int... values) throws Exception {
        calls++;
        Object got = answer(real, name, values);
        Object want = answer(plain, name, values);
        told.append(name).append(Arrays.toString(values)).append(" -> ").append(got).append('\n');
        if (got.equals(want)) {
            return true;
        }
        Due.fail(told + "due is " + want);
        return false;
    }

    private static Object answer(Object x, String name, int[] values) throws Exception {
        for (Method m : x.getClass().getMethods()) {
            if (m.getName().equals(name) && m.getDeclaringClass() == x.getClass()) {
                try {
                    return m.invoke(x, Arrays.stream(values).boxed().toArray());
                } catch (InvocationTargetException e) {
                    return e.getCause().getClass();
                }
            }
        }
        throw new IllegalStateException("no method " + name);
    }
}
