import java.lang.reflect.InvocationTargetException;
import java.lang.reflect.Method;
import java.util.ArrayList;
import java.util.Arrays;
import java.util.List;
import java.util.Map;
import java.util.regex.Matcher;
import java.util.regex.Pattern;

/**
 * Cases written as calls with the answers that are due: "shelf(5, 1) = OUTSIDE; told(0) = 2". A call without an answer
 * only leads up to the others, and must not be refused. Each case is played on a new ColdDryer, and on a PlainDryer,
 * so that a wrong answer in a case is found too. Each refused call of a case must change nothing.
 */
final class Script {
    private static final Pattern CALL = Pattern.compile("(\\w+)\\(([^)]*)\\)(?:\\s*=\\s*(\\S+))?");
    private static final Map<String, Integer> WORDS = Map.of("UNKNOWN", -1, "OUTSIDE", -2, "STATE", -3, "NONE", -6,
        "LOST", -10000, "MIN", Integer.MIN_VALUE, "MAX", Integer.MAX_VALUE);
    /** These may answer a warmth of -1, -2 or -3, so their refusals are told from LOST. */
    private static final List<String> REFUSED_FROM_LOST = List.of("rule", "warm", "vial", "about", "edge", "told");
    /** What a call that was refused could have spoilt without its being told at once. */
    private static final List<Call> AND_ON = parse("""
        run(2); trial(-300, 100, 2); tried(0); tried(1); tried(2); tried(3); tried(4); load(); run(1); about(1)
        about(2); about(4); vial(0, 1); gauge(1, 0); gauge(1, 1); end(0, 1); end(100, 2); unload(); shelf(1, 2)
        load(); run(1); about(2); vial(1, 1); wet(1)
        """);

    private final Check check;
    private int cases = 0;

    Script(String test) {
        check = new Check(test);
    }

    record Call(String name, int[] args, Integer due, String text) {
        int on(Object dryer) {
            Class<?>[] types = new Class<?>[args.length];
            Arrays.fill(types, int.class);
            Object[] given = Arrays.stream(args).boxed().toArray();
            try {
                Method method = dryer.getClass().getDeclaredMethod(name, types);
                method.setAccessible(true);
                return (Integer) method.invoke(dryer, given);
            } catch (InvocationTargetException e) {
                throw new IllegalStateException(text + " threw " + e.getCause(), e.getCause());
            } catch (ReflectiveOperationException e) {
                throw new IllegalStateException(text + " is no call of " + dryer.getClass(), e);
            }
        }

        boolean isRefusal(int answer) {
            int from = REFUSED_FROM_LOST.contains(name) ? -10000 : 0;
            return answer < from && answer >= from - 3;
        }
    }

    private static int number(String text) {
        int sum = 0;
        for (String part : text.trim().split("\\+")) {
            sum += WORDS.containsKey(part) ? WORDS.get(part) : Integer.parseInt(part);
        }
        return sum;
    }

    static List<Call> parse(String text) {
        List<Call> calls = new ArrayList<>();
        for (String line : text.split("[;\n]")) {
            String one = line.trim();
            if (one.isEmpty()) {
                continue;
            }
            Matcher m = CALL.matcher(one);
            if (!m.matches()) {
                throw new IllegalStateException("no call: " + one);
            }
            String args = m.group(2).trim();
            int[] given = args.isEmpty() ? new int[0]
                : Arrays.stream(args.split(",")).mapToInt(Script::number).toArray();
            calls.add(new Call(m.group(1), given, m.group(3) == null ? null : number(m.group(3)), one));
        }
        return calls;
    }

    void play(String name, String text) {
        cases++;
        List<Call> calls = parse(text);
        ColdDryer x = new ColdDryer();
        PlainDryer plain = new PlainDryer();
        for (int i = 0; i < calls.size(); i++) {
            Call call = calls.get(i);
            String where = name + ": call " + (i + 1) + " " + call.text;
            int got = call.on(x);
            check.due("the plain dryer, " + where, call.on(plain), got);
            if (call.due != null) {
                check.due(where, got, call.due);
            } else {
                check.holds(where + " was refused by " + got, !call.isRefusal(got));
            }
            if (call.isRefusal(got)) {
                changesNothing(where, calls.subList(0, i), call);
            }
        }
    }

    /** Two dryers come the same way, one of them by the refused call too: nothing may tell which. */
    private void changesNothing(String where, List<Call> ahead, Call refused) {
        ColdDryer x = new ColdDryer();
        ColdDryer without = new ColdDryer();
        for (Call call : ahead) {
            call.on(x);
            call.on(without);
        }
        refused.on(x);
        check.holds(where + " changed what is told", Check.stateOf(x).equals(Check.stateOf(without)));
        for (Call call : AND_ON) {
            check.due(where + " changed what is to come: " + call.text, call.on(x), call.on(without));
        }
    }

    void finish() {
        System.out.println(cases + " cases");
        check.finish();
    }
}
