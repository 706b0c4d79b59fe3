import java.util.ArrayList;
import java.util.Arrays;
import java.util.List;

/**
 * The document told again as slowly and plainly as can be, vial by vial and warmth by warmth: what the random runs
 * hold ColdDryer against.
 */
final class PlainDryer {
    private static final int NONE = -6;
    private static final int[][] BOUNDS = {
        {100, 5000}, {1, 50}, {0, 50}, {1, 50}, {10, 1000}, {0, 50}, {-600, 0}, {1, 10000}, {1, 100}, {1, 500},
        {1, 1000}};

    private static final class Vial {
        int ice;
        int warmth = NONE;
        int gave = 0;
        int fell = NONE;
        int dry = NONE;
    }

    private static final class Chamber {
        final List<Vial> vials = new ArrayList<>();
        final List<Integer> one = new ArrayList<>();
        final List<Integer> other = new ArrayList<>();
        final List<Integer> wet = new ArrayList<>();
        int minute = 0;
        int pressure;
        int greatest;
        int all = 0;
        int soFar = 0;

        int wetNow() {
            return (int) vials.stream().filter(v -> v.ice > 0).count();
        }

        int fallen() {
            return (int) vials.stream().filter(v -> v.fell != NONE).count();
        }

        int first() {
            for (int m = 0; m < minute; m++) {
                for (int i = 0; i < vials.size(); i++) {
                    if (vials.get(i).fell == m) {
                        return i;
                    }
                }
            }
            return NONE;
        }
    }

    private final int[] rules = {1000, 10, 3, 20, 100, 5, -200, 300, 5, 20, 10};
    private int rows = 2;
    private int columns = 3;
    private int shelf = -400;
    private int set = 100;
    private Chamber load = null;
    private int[] tried = null;

    int shelf(int r, int c) {
        if (r < 1 || r > 4 || c < 1 || c > 6) return -2;
        if (load != null) return -3;
        rows = r;
        columns = c;
        return r * c;
    }

    int rule(int which, int v) {
        if (which < 0 || which > 10) return -10001;
        if (v < BOUNDS[which][0] || v > BOUNDS[which][1]) return -10002;
        if (load != null) return -10003;
        int was = rules[which];
        rules[which] = v;
        return was;
    }

    private static int w(int d) {
        return (d + 2) * (d + 2) * (d + 2) / 20;
    }

    int vapour(int t) {
        if (t < -600 || t > 0) return -2;
        int d = (t + 600) / 10;
        int f = (t + 600) % 10;
        return (w(d) * (10 - f) + w(d + 1) * f) / 10;
    }

    int steam(int t, int dried, int pressure) {
        if (t < -600 || t > 0 || dried < 0 || dried > 100 || pressure < 0 || pressure > 20000) return -2;
        return Math.max(0, vapour(t) - pressure) * 10 / (rules[4] + rules[5] * dried);
    }

    int rim(int vial) {
        if (vial < 0 || vial >= rows * columns) return -1;
        int row = vial / columns;
        int column = vial % columns;
        return row == 0 || row == rows - 1 || column == 0 || column == columns - 1 ? 1 : 0;
    }

    private Chamber fresh(int pressure) {
        Chamber c = new Chamber();
        for (int i = 0; i < rows * columns; i++) {
            Vial v = new Vial();
            v.ice = rules[0];
            c.vials.add(v);
        }
        c.pressure = pressure;
        c.greatest = pressure;
        c.one.add(0);
        c.other.add(0);
        c.wet.add(rows * columns);
        return c;
    }

    private void minute(Chamber c, int shelfWarmth, int setPressure) {
        c.all = 0;
        for (int i = 0; i < c.vials.size(); i++) {
            Vial v = c.vials.get(i);
            if (v.ice == 0) {
                v.warmth = shelfWarmth;
                v.gave = 0;
                continue;
            }
            int dried = 100 * (rules[0] - v.ice) / rules[0];
            int heat = rules[1] + (rim(i) == 1 ? rules[2] : 0);
            int t = 0;
            while (t > -600 && steam(t, dried, c.pressure) * rules[3] > heat * (shelfWarmth - t) / 10) {
                t--;
            }
            v.warmth = t;
            v.gave = Math.min(v.ice, steam(t, dried, c.pressure));
            v.ice -= v.gave;
            c.all += v.gave;
            if (t > rules[6] && v.fell == NONE) v.fell = c.minute;
            if (v.ice == 0) v.dry = c.minute;
        }
        c.soFar += c.all;
        if (c.all > rules[7]) {
            c.pressure = Math.min(20000, c.pressure + (c.all - rules[7]) / rules[8]);
        } else {
            c.pressure = Math.max(setPressure, c.pressure - rules[9]);
        }
        c.pressure = Math.max(c.pressure, setPressure);
        c.greatest = Math.max(c.greatest, c.pressure);
        c.minute++;
        c.one.add(c.pressure);
        c.other.add(c.pressure * (100 + 60 * c.all / (c.all + rules[10])) / 100);
        c.wet.add(c.wetNow());
    }

    int load() {
        if (load != null) return -3;
        load = fresh(set);
        return rows * columns;
    }

    int warm(int t) {
        if (t < -600 || t > 400) return -10002;
        int was = shelf;
        shelf = t;
        return was;
    }

    int set(int pressure) {
        if (pressure < 0 || pressure > 5000) return -2;
        int was = set;
        set = pressure;
        return was;
    }

    int run(int n) {
        if (n < 1 || n > 500) return -2;
        if (load == null || load.minute + n > 2000) return -3;
        for (int i = 0; i < n; i++) minute(load, shelf, set);
        return load.minute;
    }

    int unload() {
        if (load == null) return -3;
        int wet = load.wetNow();
        load = null;
        return wet;
    }

    int vial(int i, int what) {
        if (load == null) return -10003;
        if (i < 0 || i >= rows * columns) return -10001;
        if (what < 0 || what > 4) return -10002;
        Vial v = load.vials.get(i);
        return new int[] {v.ice, v.warmth, v.gave, v.fell, v.dry}[what];
    }

    int about(int what) {
        if (what < 0 || what > 9) return -10002;
        if (what == 8) return shelf;
        if (what == 9) return set;
        if (load == null) return -10003;
        int ice = load.vials.stream().mapToInt(v -> v.ice).sum();
        return new int[] {load.minute, load.pressure, ice, load.soFar, load.all, load.greatest, load.fallen(),
            rows * columns - load.wetNow()}[what];
    }

    int gauge(int minute, int which) {
        if (load == null) return -3;
        if (minute < 1 || minute > load.minute) return -1;
        if (which < 0 || which > 1) return -2;
        return (which == 0 ? load.one : load.other).get(minute);
    }

    int end(int tolerance, int hold) {
        if (tolerance < 0 || tolerance > 100 || hold < 1 || hold > 60) return -2;
        if (load == null) return -3;
        for (int m = hold; m <= load.minute; m++) {
            boolean met = true;
            for (int k = m - hold + 1; k <= m; k++) {
                met &= load.other.get(k) - load.one.get(k) <= tolerance;
            }
            if (met) return m;
        }
        return NONE;
    }

    int wet(int minute) {
        if (load == null) return -3;
        if (minute < 0 || minute > load.minute) return -1;
        return load.wet.get(minute);
    }

    int firstFallen() {
        return load == null ? -3 : load.first();
    }

    int trial(int t, int pressure, int minutes) {
        if (t < -600 || t > 400 || pressure < 0 || pressure > 5000 || minutes < 1 || minutes > 100) return -2;
        Chamber c = fresh(pressure);
        while (c.minute < minutes && c.wetNow() > 0) minute(c, t, pressure);
        int first = c.first();
        tried = new int[] {c.minute, first, first == NONE ? NONE : c.vials.get(first).fell, c.greatest, c.wetNow()};
        return first == NONE ? 1 : 0;
    }

    int tried(int what) {
        if (what < 0 || what > 4) return -2;
        return tried == null ? -3 : tried[what];
    }

    int edge(int pressure, int minutes) {
        if (pressure < 0 || pressure > 5000 || minutes < 1 || minutes > 100) return -10002;
        for (int t = -600; t <= 400; t += 50) {
            if (trial(t, pressure, minutes) == 0) return t == -600 ? -10000 : t - 50;
        }
        return 400;
    }

    int told(int what) {
        if (what >= 10 && what <= 20) return rules[what - 10];
        if (what < 0 || what > 3) return -10002;
        return new int[] {rows, columns, rows * columns, load == null ? 0 : 1}[what];
    }

    @Override
    public String toString() {
        return "rules " + Arrays.toString(rules) + " shelf " + rows + "x" + columns;
    }
}
