/** Counts the answers that are not the ones due, and ends a test by them. */
final class Check {
    /** Of a long load only the first minutes and the latest are shown: an object is good for 512 calls. */
    private static final int MINUTES_SHOWN = 12;

    private final String test;
    private int wrong = 0;
    private int looked = 0;

    Check(String test) {
        this.test = test;
    }

    void due(String call, int got, int want) {
        looked++;
        if (got != want) {
            wrong++;
            System.out.println(test + ": " + call + " answered " + got + ", due is " + want);
        }
    }

    void holds(String what, boolean holds) {
        looked++;
        if (!holds) {
            wrong++;
            System.out.println(test + ": " + what);
        }
    }

    boolean isClean() {
        return wrong == 0;
    }

    void finish() {
        System.out.println(test + ": " + looked + " looked at, " + wrong + " wrong");
        if (wrong != 0) {
            System.exit(1);
        }
    }

    /** All that an object tells without being changed, so that a refused call can be seen to change nothing. */
    static String stateOf(ColdDryer x) {
        StringBuilder all = new StringBuilder();
        for (int what = 0; what <= 20; what++) {
            all.append(x.told(what)).append(' ');
        }
        for (int what = 0; what <= 9; what++) {
            all.append(x.about(what)).append(' ');
        }
        for (int i = 0; i < x.told(2); i++) {
            for (int what = 0; what <= 4; what++) {
                all.append(x.vial(i, what)).append(' ');
            }
        }
        int over = x.about(0);
        for (int minute = 0; minute <= over; minute++) {
            if (minute <= MINUTES_SHOWN || minute > over - MINUTES_SHOWN) {
                all.append(x.gauge(minute, 0)).append(' ').append(x.gauge(minute, 1)).append(' ');
                all.append(x.wet(minute)).append(' ');
            }
        }
        for (int what = 0; what <= 4; what++) {
            all.append(x.tried(what)).append(' ');
        }
        return all.append(x.firstFallen()).toString();
    }
}
