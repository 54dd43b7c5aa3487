import java.lang.reflect.Constructor;
import java.lang.reflect.Field;
import java.lang.reflect.Method;
import java.lang.reflect.Modifier;
import java.nio.file.Files;
import java.nio.file.Path;
import java.util.Arrays;
import java.util.Set;
import java.util.TreeSet;

/** The public face and the constants; nothing else is seen from outside. */
public final class FaceTest {
    private static final String[] FACE = {
        "int addMark(int)", "int know(int, int)", "int accept(int)", "int addLeg(int, int, int, int)",
        "int measure(int, int)", "int turn(int)", "int removeLeg(int)", "int set(int, int)", "int append(int)",
        "int clearBuffer()", "int firstError()", "int book()", "int undo()", "int mark(int, int)",
        "int leg(int, int)", "int loop(int, int)", "int way(int, int, int)", "int count(int)", "int setting(int)",
        "int worst()", "int suspect()", "int without(int, int)", "int fitting(int)", "double goodShare()",
        "long digest()"};

    public static void main(String[] args) throws Exception {
        Due.same("NONE", LevelLoops.NONE, -1);
        Due.same("NO_HEIGHT", LevelLoops.NO_HEIGHT, -1000000);
        int modifiers = LevelLoops.class.getModifiers();
        Due.same("public and final", Modifier.isPublic(modifiers) && Modifier.isFinal(modifiers) ? 1 : 0, 1);
        methods();
        inTheWordsOfTheDocument();
        for (Field f : LevelLoops.class.getDeclaredFields()) {
            boolean constant = f.getName().equals("NONE") || f.getName().equals("NO_HEIGHT");
            Due.same("private field " + f.getName(), Modifier.isPrivate(f.getModifiers()) ? 1 : 0, constant ? 0 : 1);
        }
        Constructor<?>[] made = LevelLoops.class.getDeclaredConstructors();
        Due.same("constructors", made.length, 1);
        Due.same("its parameters", made[0].getParameterCount(), 0);
        Due.end();
    }

    private static void methods() {
        Set<String> seen = new TreeSet<>();
        Set<String> names = new TreeSet<>();
        for (Method m : LevelLoops.class.getDeclaredMethods()) {
            if (!Modifier.isPrivate(m.getModifiers())) {
                String parameters = Arrays.toString(m.getParameterTypes()).replace("[", "(").replace("]", ")");
                seen.add(m.getReturnType() + " " + m.getName() + parameters);
                names.add(m.getName());
            }
        }
        if (!seen.equals(new TreeSet<>(Arrays.asList(FACE)))) {
            Due.fail("the face is " + seen);
        }
        for (Method m : LevelLoops.class.getDeclaredMethods()) {
            if (Modifier.isPrivate(m.getModifiers()) && names.contains(m.getName())) {
                Due.fail("private with a public name: " + m.getName());
            }
        }
    }

    /** The names of the parameters and the throws clauses too, which the calls of a test do not need. */
    private static void inTheWordsOfTheDocument() throws Exception {
        String source = Files.readString(Path.of("src/main/java/LevelLoops.java")).replaceAll("\\s+", " ");
        String face = Files.readString(Path.of("../shared/DOC.md")).split("```")[1];
        int members = 0;
        for (String line : face.split("\n")) {
            String member = line.strip();
            if (member.startsWith("public ")) {
                members++;
                String body = member.contains("=") ? member : member.replace(";", " {");
                Due.same("stands in the class: " + body, source.contains(body) ? 1 : 0, 1);
            }
        }
        Due.same("members of the face, with the class", members, FACE.length + 4);
    }
}
