import java.lang.reflect.Constructor;
import java.lang.reflect.Field;
import java.lang.reflect.Method;
import java.lang.reflect.Modifier;
import java.util.Arrays;
import java.util.TreeSet;

/** The class has the document's public face, no other, and keeps nothing static that can change. */
public final class FaceTest {
    private static final String FACE = "int back()|int best(int, int)|int cell(int, int, int)|long chance(int, int, int, int, int)"
        + "|int copy(int, int, int, int, int)|int count(int)|int drawn(int, int, int)|int feed(int)|int fewest(int, int, int)"
        + "|int film(int, int, int)|int force(int)|int image()|int life(int, int, int)|long likely(int, int, int, int)"
        + "|int lives(int, int, int, int)|int meet(int, int)|int otherwise(int, int, int)|int run(int, int, int)|int set(int, int, int)"
        + "|int sheet(int, int, int)|int shut(int, int)|int spoon(int, int)|int taken(int, int)|int tastes(int, int)"
        + "|int tells(int, int, int)|int text()|int told(int, int)|long turns(int, int, int)|int year()";

    private static int wrong = 0;

    public static void main(String[] args) {
        TreeSet<String> due = new TreeSet<>(Arrays.asList(FACE.split("\\|")));
        TreeSet<String> got = new TreeSet<>();
        TreeSet<String> names = new TreeSet<>();
        for (Method m : RoadsNotGoneBy.class.getDeclaredMethods()) {
            if (!Modifier.isPrivate(m.getModifiers())) {
                String parameters = Arrays.toString(Arrays.stream(m.getParameterTypes()).map(Class::getSimpleName).toArray());
                got.add(m.getReturnType().getSimpleName() + " " + m.getName() + "(" + parameters.substring(1, parameters.length() - 1) + ")");
                names.add(m.getName());
            }
        }
        due("the methods are " + got, got.equals(due));
        due("the class is public and final", RoadsNotGoneBy.class.getModifiers() == (Modifier.PUBLIC | Modifier.FINAL));
        Constructor<?>[] constructors = RoadsNotGoneBy.class.getDeclaredConstructors();
        due("one constructor", constructors.length == 1 && constructors[0].getParameterCount() == 0
            && Modifier.isPublic(constructors[0].getModifiers()));
        TreeSet<String> constants = new TreeSet<>();
        for (Field f : RoadsNotGoneBy.class.getDeclaredFields()) {
            if (!Modifier.isPrivate(f.getModifiers())) {
                constants.add(f.getType() + " " + f.getName());
            }
        }
        due("the constants are " + constants,
            constants.equals(new TreeSet<>(Arrays.asList("int NONE", "int BAD", "int STATE", "int FULL", "long NO"))));
        for (Method m : RoadsNotGoneBy.class.getDeclaredMethods()) {
            due(m + " bears a public name", !Modifier.isPrivate(m.getModifiers()) || !names.contains(m.getName()));
        }
        classesInside(names);
        System.out.println(wrong == 0 ? "the face is the document's" : wrong + " things are not as due");
        if (wrong != 0) {
            System.exit(1);
        }
    }

    private static void classesInside(TreeSet<String> names) {
        for (Class<?> c : RoadsNotGoneBy.class.getDeclaredClasses()) {
            due(c + " is static and not public", Modifier.isStatic(c.getModifiers()) && !Modifier.isPublic(c.getModifiers()));
            for (Method m : c.getDeclaredMethods()) {
                due(m + " bears a public name", !names.contains(m.getName()));
            }
            int fields = 0;
            for (Field f : c.getDeclaredFields()) {
                due(f + " is static and can change", !Modifier.isStatic(f.getModifiers()) || Modifier.isFinal(f.getModifiers()));
                fields += Modifier.isStatic(f.getModifiers()) ? 0 : 1;
            }
            due(c + " has " + fields + " fields", fields <= 20);
        }
    }

    private static void due(String what, boolean holds) {
        if (!holds) {
            wrong++;
            System.out.println(what + ": not as due");
        }
    }
}
