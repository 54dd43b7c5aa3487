import java.lang.reflect.Constructor;
import java.lang.reflect.Field;
import java.lang.reflect.Method;
import java.lang.reflect.Modifier;
import java.util.Arrays;
import java.util.Set;
import java.util.TreeSet;

/** The public face and the constants; nothing else is seen from outside. */
public final class FaceTest {
    private static final String[] FACE = {
        "int addMark(int)", "int know(int, int)", "int accept(int)", "int addLeg(int, int, int, int)",
        "int measure(int, int)", "int turn(int)", "int removeLeg(int)", "int set(int, int)", "int append(int)",
        "int clearBuffer()", "int firstError()", "int book()", "int undo()", "int mark(int, int)",
        "int leg(int, int)", "int loop(int, int)", "int way(int, int, int)", "int count(int)", "int setting(int)",
        "int worst()", "int suspect()", "int without(int, int)", "int fitting(int)", "double goodShare()",
        "long digest()"};

    public static void main(String[] args) {
        Due.same("NONE", LevelLoops.NONE, -1);
        Due.same("NO_HEIGHT", LevelLoops.NO_HEIGHT, -1000000);
        int modifiers = LevelLoops.class.getModifiers();
        Due.same("public and final", Modifier.isPublic(modifiers) && Modifier.isFinal(modifiers) ? 1 : 0, 1);
        methods();
        for (Field f : LevelLoops.class.getDeclaredFields()) {
            boolean constant = f.getName().equals("NONE") || f.getName().equals("NO_HEIGHT");
            Due.same("private field " + f.getName(), Modifier.isPrivate(f.getModifiers()) ? 1 : 0, constant ? 0 : 1);
        }
        Constructor<?>[] made = LevelLoops.class.getDeclaredConstructors();
        Due.same("constructors", made.length, 1);
        Due.same("its parameters", made[0].getParameterCount(), 0);
        Due.end();
    }

    private static void methods() {
        Set<String> seen = new TreeSet<>();
        Set<String> names = new TreeSet<>();
        for (Method m : LevelLoops.class.getDeclaredMethods()) {
            if (!Modifier.isPrivate(m.getModifiers())) {
                String parameters = Arrays.toString(m.getParameterTypes()).replace("[", "(").replace("]", ")");
                seen.add(m.getReturnType() + " " + m.getName() + parameters);
                names.add(m.getName());
            }
        }
        if (!seen.equals(new TreeSet<>(Arrays.asList(FACE)))) {
            Due.fail("the face is " + seen);
        }
        for (Method m : LevelLoops.class.getDeclaredMethods()) {
            if (Modifier.isPrivate(m.getModifiers()) && names.contains(m.getName())) {
                Due.fail("private with a public name: " + m.getName());
            }
        }
    }
}
