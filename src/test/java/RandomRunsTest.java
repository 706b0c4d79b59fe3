import java.util.Random;

/** Every promise: runs of random calls, with numbers at and beyond the bounds, held against PlainDryer. */
public final class RandomRunsTest {
    private static final int RUNS = 150;
    private static final int CALLS = 512;
    private static final int[] LEAST = {100, 1, 0, 1, 10, 0, -600, 1, 1, 1, 1};
    private static final int[] MOST = {5000, 50, 50, 50, 1000, 50, 0, 10000, 100, 500, 1000};
    private static final int[] STRANGE = {Integer.MIN_VALUE, Integer.MIN_VALUE + 1, Integer.MIN_VALUE + 9, -10001, -7,
        -1, 0, 1, 20001, Integer.MAX_VALUE - 1, Integer.MAX_VALUE};

    private final Random random;
    private final Check check;
    private final ColdDryer x = new ColdDryer();
    private final PlainDryer plain = new PlainDryer();
    private final int seed;

    private RandomRunsTest(int seed, Check check) {
        this.seed = seed;
        this.random = new Random(seed);
        this.check = check;
    }

    public static void main(String[] args) {
        Check check = new Check("RandomRunsTest");
        for (int seed = 1; seed <= RUNS && check.isClean(); seed++) {
            new RandomRunsTest(seed, check).go();
        }
        check.finish();
    }

    private void go() {
        for (int i = 0; i < CALLS && check.isClean(); i++) {
            call(i);
        }
    }

    /** Mostly inside the bounds, often at them, now and then just beyond or far off. */
    private int from(int least, int most) {
        int dice = random.nextInt(40);
        if (dice == 0) return STRANGE[random.nextInt(STRANGE.length)];
        if (dice == 1) return least - 1;
        if (dice == 2) return most + 1;
        if (dice < 6) return least;
        if (dice < 9) return most;
        return least + random.nextInt(Math.max(1, most - least + 1));
    }

    private void due(int i, String name, int got, int want, int... args) {
        check.due("seed " + seed + " call " + i + " " + name + java.util.Arrays.toString(args) + " (" + plain + ")",
            got, want);
    }

    private void call(int i) {
        int dice = random.nextInt(100);
        if (dice < 4) shelf(i);
        else if (dice < 14) rule(i);
        else if (dice < 17) { int t = from(-600, 0); due(i, "vapour", x.vapour(t), plain.vapour(t), t); }
        else if (dice < 20) steam(i);
        else if (dice < 23) { int v = from(0, plain.told(2) - 1); due(i, "rim", x.rim(v), plain.rim(v), v); }
        else if (dice < 29) due(i, "load", x.load(), plain.load());
        else if (dice < 34) { int t = from(-600, 400); due(i, "warm", x.warm(t), plain.warm(t), t); }
        else if (dice < 38) { int p = from(0, 5000); due(i, "set", x.set(p), plain.set(p), p); }
        else if (dice < 48) run(i);
        else if (dice < 50) due(i, "unload", x.unload(), plain.unload());
        else if (dice < 62) vial(i);
        else if (dice < 72) { int w = from(0, 9); due(i, "about", x.about(w), plain.about(w), w); }
        else if (dice < 77) gauge(i);
        else if (dice < 81) end(i);
        else if (dice < 85) { int m = from(0, minutes()); due(i, "wet", x.wet(m), plain.wet(m), m); }
        else if (dice < 88) due(i, "firstFallen", x.firstFallen(), plain.firstFallen());
        else if (dice < 91) trial(i);
        else if (dice < 96) { int w = from(0, 4); due(i, "tried", x.tried(w), plain.tried(w), w); }
        else if (dice < 97) edge(i);
        else { int w = from(0, 20); due(i, "told", x.told(w), plain.told(w), w); }
    }

    private int minutes() {
        return Math.max(0, plain.about(0));
    }

    private void shelf(int i) {
        int r = from(1, 4);
        int c = from(1, 6);
        due(i, "shelf", x.shelf(r, c), plain.shelf(r, c), r, c);
    }

    private void rule(int i) {
        int which = from(0, 10);
        boolean there = which >= 0 && which <= 10;
        int v = there ? from(LEAST[which], MOST[which]) : from(0, 100);
        due(i, "rule", x.rule(which, v), plain.rule(which, v), which, v);
    }

    private void steam(int i) {
        int t = from(-600, 0);
        int dried = from(0, 100);
        int pressure = random.nextBoolean() ? from(0, 20000) : from(0, 1000);
        due(i, "steam", x.steam(t, dried, pressure), plain.steam(t, dried, pressure), t, dried, pressure);
    }

    private void run(int i) {
        int n = random.nextInt(6) == 0 ? from(1, 500) : from(1, 12);
        due(i, "run", x.run(n), plain.run(n), n);
    }

    private void vial(int i) {
        int v = from(0, plain.told(2) - 1);
        int what = from(0, 4);
        due(i, "vial", x.vial(v, what), plain.vial(v, what), v, what);
    }

    private void gauge(int i) {
        int m = from(1, minutes());
        int which = from(0, 1);
        due(i, "gauge", x.gauge(m, which), plain.gauge(m, which), m, which);
    }

    private void end(int i) {
        int tolerance = from(0, 100);
        int hold = random.nextBoolean() ? from(1, 60) : from(1, 4);
        due(i, "end", x.end(tolerance, hold), plain.end(tolerance, hold), tolerance, hold);
    }

    private void trial(int i) {
        int t = from(-600, 400);
        int p = from(0, 5000);
        int m = from(1, 100);
        due(i, "trial", x.trial(t, p, m), plain.trial(t, p, m), t, p, m);
    }

    private void edge(int i) {
        int p = random.nextBoolean() ? from(0, 5000) : from(0, 300);
        int m = random.nextBoolean() ? from(1, 100) : from(1, 10);
        due(i, "edge", x.edge(p, m), plain.edge(p, m), p, m);
    }
}
