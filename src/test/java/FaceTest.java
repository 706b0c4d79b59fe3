import java.lang.reflect.Constructor;
import java.lang.reflect.Field;
import java.lang.reflect.Method;
import java.lang.reflect.Modifier;
import java.util.Arrays;
import java.util.Set;
import java.util.TreeSet;

/** The public face, as the document has it: its constants, its constructor and its methods, and no more. */
public final class FaceTest {
    private static final Check check = new Check("FaceTest");
    private static final Set<String> METHODS = Set.of("shelf/2", "rule/2", "vapour/1", "steam/3", "rim/1", "load/0",
        "warm/1", "set/1", "run/1", "unload/0", "vial/2", "about/1", "gauge/2", "end/2", "wet/1", "firstFallen/0",
        "trial/3", "tried/1", "edge/2", "told/1");
    private static final Set<String> CONSTANTS = Set.of("UNKNOWN", "OUTSIDE", "STATE", "FULL", "NO", "NONE", "LOST");

    public static void main(String[] args) {
        constants();
        face();
        check.finish();
    }

    private static void constants() {
        check.due("UNKNOWN", ColdDryer.UNKNOWN, -1);
        check.due("OUTSIDE", ColdDryer.OUTSIDE, -2);
        check.due("STATE", ColdDryer.STATE, -3);
        check.due("FULL", ColdDryer.FULL, -4);
        check.due("NO", ColdDryer.NO, -5);
        check.due("NONE", ColdDryer.NONE, -6);
        check.due("LOST", ColdDryer.LOST, -10000);
    }

    private static void face() {
        Class<?> face = ColdDryer.class;
        check.holds("the class is public and final",
            Modifier.isPublic(face.getModifiers()) && Modifier.isFinal(face.getModifiers()));
        Set<String> methods = new TreeSet<>();
        for (Method m : face.getDeclaredMethods()) {
            if (Modifier.isPrivate(m.getModifiers())) {
                check.holds("no private method is called " + m.getName(), !isPublicName(m.getName()));
                continue;
            }
            methods.add(m.getName() + "/" + m.getParameterCount());
            check.holds(m + " is public, of the object, and answers an int", Modifier.isPublic(m.getModifiers())
                && !Modifier.isStatic(m.getModifiers()) && m.getReturnType() == int.class);
            check.holds(m + " takes ints", Arrays.stream(m.getParameterTypes()).allMatch(t -> t == int.class));
        }
        check.holds("the methods are " + methods, methods.equals(new TreeSet<>(METHODS)));
        Set<String> constants = new TreeSet<>();
        for (Field f : face.getDeclaredFields()) {
            if (!Modifier.isPrivate(f.getModifiers())) {
                constants.add(f.getName());
                check.holds(f + " is a public int", Modifier.isPublic(f.getModifiers()) && f.getType() == int.class);
            }
            check.holds(f + " is no static state", !Modifier.isStatic(f.getModifiers())
                || Modifier.isFinal(f.getModifiers()));
        }
        check.holds("the constants are " + constants, constants.equals(new TreeSet<>(CONSTANTS)));
        Constructor<?>[] made = face.getDeclaredConstructors();
        check.holds("one public constructor without parameters", made.length == 1
            && Modifier.isPublic(made[0].getModifiers()) && made[0].getParameterCount() == 0);
    }

    private static boolean isPublicName(String name) {
        return METHODS.stream().anyMatch(m -> m.startsWith(name + "/"));
    }
}
