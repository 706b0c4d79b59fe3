import java.io.IOException;
import java.lang.reflect.Constructor;
import java.lang.reflect.Field;
import java.lang.reflect.Method;
import java.lang.reflect.Modifier;
import java.nio.file.Files;
import java.nio.file.Path;
import java.util.Set;
import java.util.TreeSet;
import java.util.regex.Pattern;

/** The public face, as the document has it, and what LANGUAGE.md forbids and a look at the source can find. */
public final class FaceTest {
    private static final Check check = new Check("FaceTest");
    private static final Set<String> METHODS = Set.of("shelf/2", "rule/2", "vapour/1", "steam/3", "rim/1", "load/0",
        "warm/1", "set/1", "run/1", "unload/0", "vial/2", "about/1", "gauge/2", "end/2", "wet/1", "firstFallen/0",
        "trial/3", "tried/1", "edge/2", "told/1");
    private static final Set<String> CONSTANTS = Set.of("UNKNOWN", "OUTSIDE", "STATE", "FULL", "NO", "NONE", "LOST");
    private static final String[] FORBIDDEN = {"\\bthrow\\b", "\\btry\\b", "\\bcatch\\b", "\\bassert\\b", "->", "::",
        "\\bsynchronized\\b", "\\bpackage\\b", "\\bimport\\b", "Exact\\b", "\\bstatic\\s*\\{", "\\bObject\\b"};

    public static void main(String[] args) throws IOException {
        constants();
        face();
        nestedClasses();
        source();
        check.finish();
    }

    private static void constants() {
        check.due("UNKNOWN", ColdDryer.UNKNOWN, -1);
        check.due("OUTSIDE", ColdDryer.OUTSIDE, -2);
        check.due("STATE", ColdDryer.STATE, -3);
        check.due("FULL", ColdDryer.FULL, -4);
        check.due("NO", ColdDryer.NO, -5);
        check.due("NONE", ColdDryer.NONE, -6);
        check.due("LOST", ColdDryer.LOST, -10000);
    }

    private static void face() {
        Class<?> face = ColdDryer.class;
        check.holds("the class is public and final",
            Modifier.isPublic(face.getModifiers()) && Modifier.isFinal(face.getModifiers()));
        Set<String> methods = new TreeSet<>();
        for (Method m : face.getDeclaredMethods()) {
            if (Modifier.isPrivate(m.getModifiers())) {
                check.holds("no private method is called " + m.getName(), !isPublicName(m.getName()));
                continue;
            }
            methods.add(m.getName() + "/" + m.getParameterCount());
            check.holds(m + " is public, of the object, and answers an int", Modifier.isPublic(m.getModifiers())
                && !Modifier.isStatic(m.getModifiers()) && m.getReturnType() == int.class);
        }
        check.holds("the methods are " + methods, methods.equals(new TreeSet<>(METHODS)));
        Set<String> constants = new TreeSet<>();
        for (Field f : face.getDeclaredFields()) {
            if (!Modifier.isPrivate(f.getModifiers())) {
                constants.add(f.getName());
            }
            check.holds(f + " is no static state", !Modifier.isStatic(f.getModifiers())
                || Modifier.isFinal(f.getModifiers()));
        }
        check.holds("the constants are " + constants, constants.equals(new TreeSet<>(CONSTANTS)));
        Constructor<?>[] made = face.getDeclaredConstructors();
        check.holds("one public constructor without parameters", made.length == 1
            && Modifier.isPublic(made[0].getModifiers()) && made[0].getParameterCount() == 0);
    }

    private static boolean isPublicName(String name) {
        return METHODS.stream().anyMatch(m -> m.startsWith(name + "/"));
    }

    private static void nestedClasses() {
        Class<?>[] nested = ColdDryer.class.getDeclaredClasses();
        check.holds("some twelve classes at most", nested.length <= 11);
        for (Class<?> c : nested) {
            int m = c.getModifiers();
            check.holds(c + " is static and not public",
                Modifier.isStatic(m) && !Modifier.isPublic(m) && !Modifier.isProtected(m));
            for (Field f : c.getDeclaredFields()) {
                check.holds(f + " is no static state", !Modifier.isStatic(f.getModifiers())
                    || Modifier.isFinal(f.getModifiers()));
            }
            for (Method method : c.getDeclaredMethods()) {
                check.holds(method + " has a name of its own", !isPublicName(method.getName()));
                check.holds(method + " takes seven at most", method.getParameterCount() <= 7);
            }
        }
    }

    private static void source() throws IOException {
        String text = Files.readString(Path.of("src/main/java/ColdDryer.java"));
        String code = text.replaceAll("(?s)/\\*.*?\\*/", "").replaceAll("//[^\n]*", "");
        for (String word : FORBIDDEN) {
            check.holds("the source is without " + word, !Pattern.compile(word).matcher(code).find());
        }
    }
}
