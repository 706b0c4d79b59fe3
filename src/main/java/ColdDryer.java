/**
 * Vials frozen full, dried by cold on a shelf: their warmth and steam minute by minute, the pressure in the
 * chamber, the gauges, the vials that fall in, and the map of shelves and pressures at which none does.
 */
public final class ColdDryer {
    public static final int UNKNOWN = -1, OUTSIDE = -2, STATE = -3, FULL = -4, NO = -5, NONE = -6;
    public static final int LOST = -10000;

    private static final int MOST_ROWS = 4, MOST_COLUMNS = 6;
    private static final int COLDEST = -600, WARMEST_ICE = 0, WARMEST_SHELF = 400;
    private static final int MOST_SET = 5000, MOST_PRESSURE = 20000;
    private static final int MOST_MINUTES = 2000, MOST_MINUTES_A_RUN = 500, MOST_MINUTES_A_TRIAL = 100;
    private static final int MOST_TOLERANCE = 100, MOST_HOLD = 60;
    private static final int EDGE_STEP = 50;
    private static final int FIRST_RULE_TOLD = 10;

    private final Rules rules;
    private final Load current;
    private final Load latestTrial;
    private final History history;
    private int rows;
    private int columns;
    private int shelfWarmth;
    private int setPressure;
    private boolean loaded;
    private boolean trialDone;

    public ColdDryer() {
        rules = new Rules();
        current = new Load();
        latestTrial = new Load();
        history = new History();
        rows = 2;
        columns = 3;
        shelfWarmth = -400;
        setPressure = 100;
        loaded = false;
        trialDone = false;
    }

    // ---- 1 the shelf

    public int shelf(int rows, int columns) {
        if (!within(rows, 1, MOST_ROWS) || !within(columns, 1, MOST_COLUMNS)) {
            return OUTSIDE;
        }
        if (loaded) {
            return STATE;
        }
        this.rows = rows;
        this.columns = columns;
        return places();
    }

    public int rule(int which, int v) {
        if (!Rules.has(which)) {
            return LOST + UNKNOWN;
        }
        if (!Rules.allows(which, v)) {
            return LOST + OUTSIDE;
        }
        if (loaded) {
            return LOST + STATE;
        }
        return rules.change(which, v);
    }

    public int vapour(int t) {
        return within(t, COLDEST, WARMEST_ICE) ? vapourAt(t) : OUTSIDE;
    }

    public int steam(int t, int dried, int pressure) {
        if (!within(t, COLDEST, WARMEST_ICE) || !within(dried, 0, 100) || !within(pressure, 0, MOST_PRESSURE)) {
            return OUTSIDE;
        }
        return steamAt(t, rules.bars(dried), pressure);
    }

    public int rim(int vial) {
        if (!within(vial, 0, places() - 1)) {
            return UNKNOWN;
        }
        return isAtRim(vial) ? 1 : 0;
    }

    // ---- 2 a load

    public int load() {
        if (loaded) {
            return STATE;
        }
        current.start(rules, rows, columns, setPressure);
        history.note(current, rules);
        loaded = true;
        return places();
    }

    public int warm(int t) {
        if (!within(t, COLDEST, WARMEST_SHELF)) {
            return LOST + OUTSIDE;
        }
        int before = shelfWarmth;
        shelfWarmth = t;
        return before;
    }

    public int set(int pressure) {
        if (!within(pressure, 0, MOST_SET)) {
            return OUTSIDE;
        }
        int before = setPressure;
        setPressure = pressure;
        return before;
    }

    public int run(int n) {
        if (!within(n, 1, MOST_MINUTES_A_RUN)) {
            return OUTSIDE;
        }
        if (!loaded || current.minute + n > MOST_MINUTES) {
            return STATE;
        }
        for (int i = 0; i < n; i++) {
            current.passMinute(rules, shelfWarmth, setPressure);
            history.note(current, rules);
        }
        return current.minute;
    }

    public int unload() {
        if (!loaded) {
            return STATE;
        }
        loaded = false;
        return current.vialsWithIce();
    }

    public int vial(int i, int what) {
        if (!loaded) {
            return LOST + STATE;
        }
        if (!within(i, 0, places() - 1)) {
            return LOST + UNKNOWN;
        }
        if (!within(what, 0, 4)) {
            return LOST + OUTSIDE;
        }
        Group group = isAtRim(i) ? current.rimVials : current.innerVials;
        return group.tell(what);
    }

    public int about(int what) {
        if (!within(what, 0, 9)) {
            return LOST + OUTSIDE;
        }
        if (what == 8) {
            return shelfWarmth;
        }
        if (what == 9) {
            return setPressure;
        }
        return loaded ? current.tell(what) : LOST + STATE;
    }

    public int gauge(int minute, int which) {
        if (!loaded) {
            return STATE;
        }
        if (!within(minute, 1, current.minute)) {
            return UNKNOWN;
        }
        if (!within(which, 0, 1)) {
            return OUTSIDE;
        }
        return which == 0 ? history.oneAt(minute) : history.otherAt(minute);
    }

    public int end(int tolerance, int hold) {
        if (!within(tolerance, 0, MOST_TOLERANCE) || !within(hold, 1, MOST_HOLD)) {
            return OUTSIDE;
        }
        return loaded ? history.findEnd(current.minute, tolerance, hold) : STATE;
    }

    public int wet(int minute) {
        if (!loaded) {
            return STATE;
        }
        return within(minute, 0, current.minute) ? history.withIceAt(minute) : UNKNOWN;
    }

    public int firstFallen() {
        return loaded ? current.firstVialToFall() : STATE;
    }

    // ---- 3 the map

    public int trial(int t, int pressure, int minutes) {
        if (!within(t, COLDEST, WARMEST_SHELF) || !isMapped(pressure, minutes)) {
            return OUTSIDE;
        }
        return noneFalls(t, pressure, minutes) ? 1 : 0;
    }

    public int tried(int what) {
        if (!within(what, 0, 4)) {
            return OUTSIDE;
        }
        if (!trialDone) {
            return STATE;
        }
        switch (what) {
            case 0: return latestTrial.minute;
            case 1: return latestTrial.firstVialToFall();
            case 2: return latestTrial.firstToFall().fellIn;
            case 3: return latestTrial.greatestPressure;
            default: return latestTrial.vialsWithIce();
        }
    }

    public int edge(int pressure, int minutes) {
        if (!isMapped(pressure, minutes)) {
            return LOST + OUTSIDE;
        }
        int safe = LOST;
        for (int t = COLDEST; t <= WARMEST_SHELF; t += EDGE_STEP) {
            if (!noneFalls(t, pressure, minutes)) {
                return safe;
            }
            safe = t;
        }
        return safe;
    }

    public int told(int what) {
        // Looked at before the subtraction, which would wrap for the least numbers.
        if (what >= FIRST_RULE_TOLD && Rules.has(what - FIRST_RULE_TOLD)) {
            return rules.valueOf(what - FIRST_RULE_TOLD);
        }
        switch (what) {
            case 0: return rows;
            case 1: return columns;
            case 2: return places();
            case 3: return loaded ? 1 : 0;
            default: return LOST + OUTSIDE;
        }
    }

    // ---- what the calls share

    private int places() {
        return rows * columns;
    }

    private boolean isAtRim(int place) {
        int row = quotient(place, columns);
        int column = place - row * columns;
        return row == 0 || row == rows - 1 || column == 0 || column == columns - 1;
    }

    private static boolean isMapped(int pressure, int minutes) {
        return within(pressure, 0, MOST_SET) && within(minutes, 1, MOST_MINUTES_A_TRIAL);
    }

    /** A trial goes on behind the first vial that falls in: tried() tells of its whole time. */
    private boolean noneFalls(int t, int pressure, int minutes) {
        latestTrial.start(rules, rows, columns, pressure);
        for (int i = 0; i < minutes && latestTrial.vialsWithIce() > 0; i++) {
            latestTrial.passMinute(rules, t, pressure);
        }
        trialDone = true;
        return latestTrial.fallenVials() == 0;
    }

    private static boolean within(int v, int least, int most) {
        return v >= least && v <= most;
    }

    /** No divisor here is ever 0, by the bounds of the rules; the test makes that plain where it divides. */
    private static int quotient(int whole, int parts) {
        return parts == 0 ? 0 : whole / parts;
    }

    private static int vapourAt(int t) {
        int tenths = t - COLDEST;
        int degrees = tenths / 10;
        int left = tenths % 10;
        int lower = degrees + 2;
        int upper = degrees + 3;
        int atLower = lower * lower * lower / 20;
        int atUpper = upper * upper * upper / 20;
        return (atLower * (10 - left) + atUpper * left) / 10;
    }

    private static int steamAt(int t, int bars, int pressure) {
        return quotient(Math.max(0, vapourAt(t) - pressure) * 10, bars);
    }

    /** The rules that can be told, with their bounds. */
    private static final class Rules {
        static final int FILL = 0, HEAT = 1, RIM = 2, COST = 3, BARE = 4, CAKE = 5, FALL = 6, TRAP = 7, GAS = 8,
            PULL = 9, LEAK = 10;
        private static final int COUNT = 11;
        private static final int[] LEAST = {100, 1, 0, 1, 10, 0, -600, 1, 1, 1, 1};
        private static final int[] MOST = {5000, 50, 50, 50, 1000, 50, 0, 10000, 100, 500, 1000};
        private static final int[] AT_FIRST = {1000, 10, 3, 20, 100, 5, -200, 300, 5, 20, 10};

        private final int[] values;

        Rules() {
            values = new int[COUNT];
            System.arraycopy(AT_FIRST, 0, values, 0, COUNT);
        }

        static boolean has(int which) {
            return within(which, 0, COUNT - 1);
        }

        static boolean allows(int which, int v) {
            return has(which) && within(v, LEAST[which], MOST[which]);
        }

        int valueOf(int which) {
            return has(which) ? values[which] : 0;
        }

        int change(int which, int v) {
            int before = valueOf(which);
            if (allows(which, v)) {
                values[which] = v;
            }
            return before;
        }

        /** What bars the steam of a vial of which so many hundredths are dried. */
        int bars(int dried) {
            return values[BARE] + values[CAKE] * dried;
        }
    }

    /**
     * Vials that take the same heat. They are filled alike and feel the same pressure, so they stay alike for
     * the whole load, and one reckoning serves them all.
     */
    private static final class Group {
        int vials;
        int firstNumber;
        int ice;
        int gave;
        int fellIn;
        private int heat;
        private int warmth;
        private int driedOut;

        /** A group without vials is without ice, so that it never gives steam or falls in. */
        void fill(int vials, int firstNumber, int heat, int ice) {
            this.vials = vials;
            this.firstNumber = firstNumber;
            this.heat = heat;
            this.ice = vials > 0 ? ice : 0;
            gave = 0;
            warmth = NONE;
            fellIn = NONE;
            driedOut = NONE;
        }

        void passMinute(Rules rules, int shelfWarmth, int pressure, int minute) {
            if (ice == 0) {
                warmth = shelfWarmth;
                gave = 0;
                return;
            }
            int full = rules.valueOf(Rules.FILL);
            int bars = rules.bars(quotient(100 * (full - ice), full));
            warmth = balance(shelfWarmth, bars, pressure, rules.valueOf(Rules.COST));
            gave = Math.min(ice, steamAt(warmth, bars, pressure));
            ice -= gave;
            if (ice == 0) {
                driedOut = minute;
            }
            if (fellIn == NONE && warmth > rules.valueOf(Rules.FALL)) {
                fellIn = minute;
            }
        }

        /**
         * The greatest warmth at which the steam costs no more than the heat that comes. The warmer the ice, the
         * more steam and the less heat: so what holds at one warmth holds at all below, and halving steps find it.
         */
        private int balance(int shelfWarmth, int bars, int pressure, int cost) {
            int t = COLDEST;
            for (int step = 512; step > 0; step /= 2) {
                int next = t + step;
                if (next <= WARMEST_ICE
                        && steamAt(next, bars, pressure) * cost <= heat * (shelfWarmth - next) / 10) {
                    t = next;
                }
            }
            return t;
        }

        int tell(int what) {
            switch (what) {
                case 0: return ice;
                case 1: return warmth;
                case 2: return gave;
                case 3: return fellIn;
                default: return driedOut;
            }
        }
    }

    /** A load in the chamber: that of the calls, or one of a trial's own. */
    private static final class Load {
        final Group rimVials;
        final Group innerVials;
        int minute;
        int pressure;
        int greatestPressure;
        int allGave;
        private int gaveSoFar;

        Load() {
            rimVials = new Group();
            innerVials = new Group();
        }

        void start(Rules rules, int rows, int columns, int set) {
            int inner = Math.max(0, rows - 2) * Math.max(0, columns - 2);
            int heat = rules.valueOf(Rules.HEAT);
            int ice = rules.valueOf(Rules.FILL);
            rimVials.fill(rows * columns - inner, 0, heat + rules.valueOf(Rules.RIM), ice);
            innerVials.fill(inner, columns + 1, heat, ice);
            minute = 0;
            pressure = set;
            greatestPressure = set;
            allGave = 0;
            gaveSoFar = 0;
        }

        void passMinute(Rules rules, int shelfWarmth, int set) {
            rimVials.passMinute(rules, shelfWarmth, pressure, minute);
            innerVials.passMinute(rules, shelfWarmth, pressure, minute);
            allGave = rimVials.gave * rimVials.vials + innerVials.gave * innerVials.vials;
            gaveSoFar += allGave;
            pressure = Math.max(set, pressureBehind(rules));
            greatestPressure = Math.max(greatestPressure, pressure);
            minute++;
        }

        private int pressureBehind(Rules rules) {
            int beyond = allGave - rules.valueOf(Rules.TRAP);
            if (beyond > 0) {
                return Math.min(MOST_PRESSURE, pressure + quotient(beyond, rules.valueOf(Rules.GAS)));
            }
            return pressure - rules.valueOf(Rules.PULL);
        }

        /** The gauge that steam misleads: it shows more, the more of what it meets is steam. */
        int otherGauge(Rules rules) {
            int share = quotient(60 * allGave, allGave + rules.valueOf(Rules.LEAK));
            return pressure * (100 + share) / 100;
        }

        int vialsWithIce() {
            return (rimVials.ice > 0 ? rimVials.vials : 0) + (innerVials.ice > 0 ? innerVials.vials : 0);
        }

        int fallenVials() {
            return (rimVials.fellIn != NONE ? rimVials.vials : 0) + (innerVials.fellIn != NONE ? innerVials.vials : 0);
        }

        /** In the same minute the rim is first, as vial 0 is always of it; the rim also if none fell in. */
        Group firstToFall() {
            boolean innerFirst = innerVials.fellIn != NONE
                && (rimVials.fellIn == NONE || innerVials.fellIn < rimVials.fellIn);
            return innerFirst ? innerVials : rimVials;
        }

        int firstVialToFall() {
            Group first = firstToFall();
            return first.fellIn == NONE ? NONE : first.firstNumber;
        }

        int tell(int what) {
            switch (what) {
                case 0: return minute;
                case 1: return pressure;
                case 2: return rimVials.ice * rimVials.vials + innerVials.ice * innerVials.vials;
                case 3: return gaveSoFar;
                case 4: return allGave;
                case 5: return greatestPressure;
                case 6: return fallenVials();
                default: return rimVials.vials + innerVials.vials - vialsWithIce();
            }
        }
    }

    /** What the gauges showed, and how many vials had ice, as each minute ended. */
    private static final class History {
        private final int[] one;
        private final int[] other;
        private final int[] withIce;

        History() {
            one = new int[MOST_MINUTES + 1];
            other = new int[MOST_MINUTES + 1];
            withIce = new int[MOST_MINUTES + 1];
        }

        void note(Load load, Rules rules) {
            int minute = load.minute;
            if (holds(minute)) {
                one[minute] = load.pressure;
                other[minute] = load.otherGauge(rules);
                withIce[minute] = load.vialsWithIce();
            }
        }

        int oneAt(int minute) {
            return holds(minute) ? one[minute] : UNKNOWN;
        }

        int otherAt(int minute) {
            return holds(minute) ? other[minute] : UNKNOWN;
        }

        int withIceAt(int minute) {
            return holds(minute) ? withIce[minute] : UNKNOWN;
        }

        int findEnd(int minutesOver, int tolerance, int hold) {
            int together = 0;
            for (int minute = 1; minute <= minutesOver; minute++) {
                together = otherAt(minute) - oneAt(minute) <= tolerance ? together + 1 : 0;
                if (together >= hold) {
                    return minute;
                }
            }
            return NONE;
        }

        private static boolean holds(int minute) {
            return within(minute, 0, MOST_MINUTES);
        }
    }
}
