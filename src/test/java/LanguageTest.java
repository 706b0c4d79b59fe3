import java.io.IOException;
import java.lang.reflect.Array;
import java.lang.reflect.Field;
import java.lang.reflect.Method;
import java.lang.reflect.Modifier;
import java.nio.file.Files;
import java.nio.file.Path;
import java.util.ArrayDeque;
import java.util.ArrayList;
import java.util.Collections;
import java.util.Deque;
import java.util.IdentityHashMap;
import java.util.List;
import java.util.Set;
import java.util.regex.Matcher;
import java.util.regex.Pattern;

/** The rules of LANGUAGE.md, as far as a look at the source, at its classes and at what a run makes can tell. */
public final class LanguageTest {
    private static final Check check = new Check("LanguageTest");
    private static final Path SOURCE = Path.of("src/main/java/ColdDryer.java");
    private static final Set<String> LIBRARY = Set.of("Math.max", "Math.min", "System.arraycopy");
    private static final String[] FORBIDDEN = {"\\bthrow\\b", "\\btry\\b", "\\bcatch\\b", "\\bassert\\b", "->", "::",
        "\\bsynchronized\\b", "\\bpackage\\b", "\\bimport\\b", "Exact\\b", "\\bstatic\\s*\\{", "\\bObject\\b",
        "\\bjava\\.", "\\bdouble\\b", "\\bfloat\\b", "\"", "\\bwhile\\b", "\\bdo\\b", "\\)\\s*\\{\\s*\\}"};
    private static final int MOST_LINES = 60;
    private static final int MOST_FIELDS = 20;
    /** Of the room of a run: an object of 512 calls may be one of very many. */
    private static final int MOST_OBJECTS = 20;
    private static final int MOST_ELEMENTS = 6200;

    public static void main(String[] args) throws IOException {
        String text = Files.readString(SOURCE);
        String code = text.replaceAll("(?s)/\\*.*?\\*/", "").replaceAll("//[^\n]*", "");
        rules1To3(classes());
        rule3Characters(text);
        rules2To9(code);
        rule4(code);
        rule5(code);
        rule7Divisors(code);
        rule11(code);
        rule12New(code);
        rule12Room();
        rule12Calls();
        rule13();
        check.finish();
    }

    private static List<Class<?>> classes() {
        List<Class<?>> all = new ArrayList<>(List.of(ColdDryer.class.getDeclaredClasses()));
        all.add(ColdDryer.class);
        check.holds("11: some twelve classes at most", all.size() <= 12);
        return all;
    }

    private static void rules1To3(List<Class<?>> classes) {
        Set<String> face = Set.of("shelf", "rule", "vapour", "steam", "rim", "load", "warm", "set", "run", "unload",
            "vial", "about", "gauge", "end", "wet", "firstFallen", "trial", "tried", "edge", "told");
        for (Class<?> c : classes) {
            int m = c.getModifiers();
            check.holds("1: " + c + " is nested, static and not public", c == ColdDryer.class
                || Modifier.isStatic(m) && !Modifier.isPublic(m) && !Modifier.isProtected(m));
            int own = 0;
            for (Field f : c.getDeclaredFields()) {
                boolean isStatic = Modifier.isStatic(f.getModifiers());
                own += isStatic ? 0 : 1;
                check.holds("3: the type of " + f, f.getType() == int.class || f.getType() == boolean.class
                    || f.getType() == int[].class || classes.contains(f.getType()));
                check.holds("5: " + f + " is no static state", !isStatic || Modifier.isFinal(f.getModifiers())
                    && (f.getType() == int.class || f.getType() == int[].class));
            }
            check.holds("11: the fields of " + c + " are " + own, own <= MOST_FIELDS);
            for (Method method : c.getDeclaredMethods()) {
                check.holds("1: " + method + " has a name of its own",
                    Modifier.isPublic(method.getModifiers()) || !face.contains(method.getName()));
                check.holds("11: " + method + " takes seven at most", method.getParameterCount() <= 7);
            }
        }
    }

    private static void rule3Characters(String text) {
        check.holds("3: characters of ASCII alone", text.chars().allMatch(c -> c < 128));
    }

    /** Loops other than for would be let in; without them it is plain that each has a counter and a bound. */
    private static void rules2To9(String code) {
        for (String word : FORBIDDEN) {
            check.holds("the source is without " + word, !Pattern.compile(word).matcher(code).find());
        }
    }

    private static void rule4(String code) {
        Matcher use = Pattern.compile("\\b(?!Rules\\b)[A-Z]\\w*\\.\\w+").matcher(code);
        while (use.find()) {
            check.holds("4: " + use.group() + " is of the library that there is", LIBRARY.contains(use.group()));
        }
    }

    /** A row that is written out is never written to, and is handed on to none but arraycopy, which reads it. */
    private static void rule5(String code) {
        Matcher row = Pattern.compile("static final int\\[\\] (\\w+) = \\{").matcher(code);
        int rows = 0;
        while (row.find()) {
            rows++;
            Matcher use = Pattern.compile("\\b" + row.group(1)
                + "\\b(?!\\[\\w+\\](?!\\s*(?:[-+*/%]?=[^=]|\\+\\+|--))| = \\{)").matcher(code);
            while (use.find()) {
                String ahead = code.substring(Math.max(0, use.start() - 17), use.start());
                check.holds("5: " + row.group(1) + " is only read", ahead.equals("System.arraycopy("));
            }
        }
        check.due("5: the rows that are written out", rows, 3);
    }

    private static void rule7Divisors(String code) {
        Matcher division = Pattern.compile("[/%]=?\\s*([\\w.(\\[]+)").matcher(code);
        int lookedAt = 0;
        while (division.find()) {
            boolean inQuotient = code.startsWith("return parts == 0 ? 0 : whole / parts;", division.start() - 30);
            lookedAt += inQuotient ? 1 : 0;
            check.holds("7: the divisor " + division.group(1) + " is a number, or looked at",
                inQuotient || division.group(1).matches("[1-9]\\d*"));
        }
        check.due("7: the divisors that are looked at", lookedAt, 1);
    }

    private static void rule11(String code) {
        for (String method : methods(code)) {
            check.holds("11: a short method: " + nameOf(method), method.lines().count() <= MOST_LINES);
        }
    }

    private static void rule12New(String code) {
        for (String method : methods(code)) {
            boolean makes = Pattern.compile("\\bnew\\b").matcher(method).find();
            check.holds("12: only constructors make objects: " + nameOf(method),
                !makes || Character.isUpperCase(nameOf(method).charAt(0)));
        }
    }

    private static final Pattern HEAD = Pattern.compile("(?m)^( +)(?:[\\w\\[\\]]+ )*(\\w+)\\([^)]*\\) \\{$");

    /** Methods and constructors, each from its head to the brace that stands as far in as the head. */
    private static List<String> methods(String code) {
        List<String> all = new ArrayList<>();
        Matcher head = HEAD.matcher(code);
        while (head.find()) {
            if (!Set.of("if", "for", "switch").contains(head.group(2))) {
                int end = code.indexOf("\n" + head.group(1) + "}", head.end());
                all.add(code.substring(head.start(), Math.max(head.end(), end + 1)));
            }
        }
        check.holds("the methods can be found", all.size() > 40);
        return all;
    }

    private static String nameOf(String method) {
        Matcher head = HEAD.matcher(method.lines().findFirst().orElse(""));
        return head.find() ? head.group(2) : "none";
    }

    private static void rule12Room() {
        ColdDryer x = new ColdDryer();
        long[] atFirst = roomOf(x);
        check.holds("12: objects and arrays: " + atFirst[0], atFirst[0] <= MOST_OBJECTS);
        check.holds("12: fields and elements: " + atFirst[1], atFirst[1] <= MOST_ELEMENTS);
        useAll(x, 0);
        long[] later = roomOf(x);
        check.holds("12: no call keeps more", atFirst[0] == later[0] && atFirst[1] == later[1]);
    }

    private static long[] roomOf(Object first) {
        Set<Object> seen = Collections.newSetFromMap(new IdentityHashMap<>());
        Deque<Object> open = new ArrayDeque<>(List.of(first));
        long elements = 0;
        while (!open.isEmpty()) {
            Object o = open.pop();
            if (!seen.add(o)) {
                continue;
            }
            if (o.getClass().isArray()) {
                elements += Array.getLength(o);
                continue;
            }
            for (Field f : o.getClass().getDeclaredFields()) {
                if (!Modifier.isStatic(f.getModifiers())) {
                    elements++;
                    Object held = valueOf(f, o);
                    if (!f.getType().isPrimitive() && held != null) {
                        open.push(held);
                    }
                }
            }
        }
        return new long[] {seen.size(), elements};
    }

    private static Object valueOf(Field f, Object o) {
        try {
            f.setAccessible(true);
            return f.get(o);
        } catch (IllegalAccessException e) {
            throw new IllegalStateException(e);
        }
    }

    /** What a run of calls makes, once all is loaded: nothing, but for what the machine itself may make on the way. */
    private static void rule12Calls() {
        var threads = (com.sun.management.ThreadMXBean) java.lang.management.ManagementFactory.getThreadMXBean();
        useAll(new ColdDryer(), 0);
        ColdDryer x = new ColdDryer();
        long before = threads.getCurrentThreadAllocatedBytes();
        useAll(x, 0);
        long made = threads.getCurrentThreadAllocatedBytes() - before;
        check.holds("12: the bytes that a run of calls makes: " + made, made < 4096);
    }

    private static void rule13() {
        ColdDryer x = new ColdDryer();
        ColdDryer y = new ColdDryer();
        int apart = useAll(new ColdDryer(), 1);
        check.due("13: the same calls, the same answers", useAll(x, 1), apart);
        check.due("13: also behind another object's", useAll(y, 1), apart);
    }

    /** Every call, accepted and refused, some 440 in all, and a number that their answers make together. */
    private static int useAll(ColdDryer x, int sum) {
        for (int round = 0; round < 5; round++) {
            sum = sum * 31 + x.shelf(3 + round % 2, 4);
            sum = sum * 31 + x.rule(0, 200 + round) + x.rule(round, 50) + x.rule(6, -350) + x.rule(11, 0);
            sum = sum * 31 + x.vapour(-300 + round) + x.steam(-200, round, 100) + x.rim(5 + round);
            sum = sum * 31 + x.load() + x.load() + x.warm(round * 50) + x.set(round * 10) + x.warm(401) + x.set(-1);
            sum = sum * 31 + x.run(500) + x.run(500) + x.run(500) + x.run(500) + x.run(1) + x.run(0);
            for (int what = -1; what <= 10; what++) {
                sum = sum * 31 + x.about(what) + x.vial(what, what) + x.vial(5, what) + x.told(what + 10);
            }
            sum = sum * 31 + x.gauge(1, 1) + x.gauge(2000, 0) + x.gauge(2001, 0) + x.wet(2000) + x.wet(-1);
            sum = sum * 31 + x.end(0, 60) + x.end(100, 1) + x.end(0, 61) + x.firstFallen();
            sum = sum * 31 + x.trial(round * 50, 100, 100) + x.edge(round * 100, 100) + x.edge(-1, 1);
            sum = sum * 31 + x.tried(0) + x.tried(1) + x.tried(2) + x.tried(3) + x.tried(4) + x.unload() + x.unload();
        }
        return sum;
    }
}
