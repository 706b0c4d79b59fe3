import java.util.ArrayList;
import java.util.LinkedHashMap;
import java.util.List;
import java.util.Map;

/**
 * Refusals, all promises: every call in every state with every mix of the numbers at its bounds, beyond them and far
 * off, held against PlainDryer. So of several refusals that fit the first one is answered, and none throws.
 */
public final class GridTest {
    private static final Check check = new Check("GridTest");
    private static final int MIN = Integer.MIN_VALUE, MAX = Integer.MAX_VALUE;
    /** An object is good for 512 calls, with those that lead up to its state. */
    private static final int MOST_CALLS = 400;

    private static final Map<String, String> STATES = new LinkedHashMap<>();
    private static final Map<String, int[][]> CALLS = new LinkedHashMap<>();

    static {
        STATES.put("a new one", "");
        STATES.put("a trial was", "shelf(4, 6); rule(6, -350); trial(0, 100, 20)");
        STATES.put("a load ahead of its first minute", "shelf(3, 4); load()");
        STATES.put("a load under way", "shelf(4, 6); rule(0, 200); rule(6, -350); warm(0); load(); run(7)");
        STATES.put("a dry load", "shelf(3, 3); rule(0, 100); warm(0); load(); run(60); trial(-300, 0, 3)");
        STATES.put("a load one minute from its end", """
            shelf(1, 1); rule(0, 100); warm(100); load(); run(500); run(500); run(500); run(499)
            """);
        STATES.put("a load at its end", """
            shelf(1, 2); rule(0, 100); warm(100); load(); run(500); run(500); run(500); run(500)
            """);
        STATES.put("a load that went", "shelf(3, 6); load(); run(5); edge(5000, 2); unload()");

        int[] warmths = {MIN, -601, -600, -1, 0, 1, 400, 401, MAX};
        int[] sets = {MIN, -1, 0, 5000, 5001, MAX};
        int[] minutes = {MIN, -1, 0, 1, 2, 7, 8, 59, 60, 61, 1999, 2000, 2001, MAX};
        int[] trialMinutes = {MIN, -1, 0, 1, 100, 101, MAX};
        CALLS.put("shelf", new int[][] {{MIN, -1, 0, 1, 3, 4, 5, MAX}, {MIN, -1, 0, 1, 4, 6, 7, MAX}});
        CALLS.put("rule", new int[][] {upTo(10), {MIN, -601, -600, -1, 0, 1, 2, 9, 10, 11, 50, 51, 99, 100, 101, 500,
            501, 1000, 1001, 5000, 5001, 10000, 10001, MAX}});
        CALLS.put("vapour", new int[][] {warmths});
        CALLS.put("steam", new int[][] {warmths, {MIN, -1, 0, 100, 101, MAX}, {MIN, -1, 0, 20000, 20001, MAX}});
        CALLS.put("rim", new int[][] {upTo(24)});
        CALLS.put("load", new int[][] {});
        CALLS.put("warm", new int[][] {warmths});
        CALLS.put("set", new int[][] {sets});
        CALLS.put("run", new int[][] {{MIN, -1, 0, 1, 2, 499, 500, 501, 2000, MAX}});
        CALLS.put("unload", new int[][] {});
        CALLS.put("vial", new int[][] {upTo(24), upTo(4)});
        CALLS.put("about", new int[][] {upTo(9)});
        CALLS.put("gauge", new int[][] {minutes, upTo(1)});
        CALLS.put("end", new int[][] {{MIN, -1, 0, 1, 50, 100, 101, MAX}, {MIN, -1, 0, 1, 2, 59, 60, 61, MAX}});
        CALLS.put("wet", new int[][] {minutes});
        CALLS.put("firstFallen", new int[][] {});
        CALLS.put("trial", new int[][] {warmths, sets, trialMinutes});
        CALLS.put("tried", new int[][] {upTo(4)});
        CALLS.put("edge", new int[][] {sets, trialMinutes});
        CALLS.put("told", new int[][] {upTo(20)});
    }

    private final String state;
    private final List<Script.Call> way;
    private ColdDryer x;
    private PlainDryer plain;
    private int calls;

    private GridTest(String state, String way) {
        this.state = state;
        this.way = Script.parse(way);
    }

    public static void main(String[] args) {
        for (Map.Entry<String, String> state : STATES.entrySet()) {
            GridTest grid = new GridTest(state.getKey(), state.getValue());
            for (Map.Entry<String, int[][]> call : CALLS.entrySet()) {
                grid.makeAnew();
                grid.mix(call.getKey(), call.getValue(), new ArrayList<>());
            }
        }
        check.finish();
    }

    /** All from -1 to one beyond the last, and the farthest; also those that wrap when 10 is taken from them. */
    private static int[] upTo(int last) {
        int[] all = new int[last + 7];
        for (int i = 0; i < last + 3; i++) {
            all[i] = i - 1;
        }
        all[last + 3] = MIN;
        all[last + 4] = MIN + 9;
        all[last + 5] = MIN + 10;
        all[last + 6] = MAX;
        return all;
    }

    private void makeAnew() {
        x = new ColdDryer();
        plain = new PlainDryer();
        calls = way.size();
        for (Script.Call call : way) {
            check.due(state + ": " + call.text(), call.on(x), call.on(plain));
        }
    }

    private void mix(String name, int[][] numbers, List<Integer> chosen) {
        if (chosen.size() == numbers.length) {
            int[] args = chosen.stream().mapToInt(Integer::intValue).toArray();
            play(new Script.Call(name, args, null, name + chosen));
            return;
        }
        for (int number : numbers[chosen.size()]) {
            chosen.add(number);
            mix(name, numbers, chosen);
            chosen.remove(chosen.size() - 1);
        }
    }

    /** A call that is not refused may change the state, so the next one has a dryer of its own. */
    private void play(Script.Call call) {
        int got = call.on(x);
        check.due(state + ": " + call.text(), got, call.on(plain));
        calls++;
        boolean changes = List.of("shelf", "rule", "load", "warm", "set", "run", "unload", "trial", "edge")
            .contains(call.name());
        if (calls >= MOST_CALLS || changes && !call.isRefusal(got)) {
            makeAnew();
        }
    }
}
