/** Promises 7 to 17: a load, its minutes, its pressure, its gauges and its end. */
public final class LoadTest {
    private static final Check check = new Check("LoadTest");

    public static void main(String[] args) {
        promise7Load();
        promise8Warm();
        promise9Set();
        promise9SetIsFeltAsAMinuteEnds();
        promise10RunRefused();
        promise10MinutesByHand();
        promise10WarmthIsCutTowardsNought();
        promise10ADryingLoad();
        promise10PressureBeyondTheTrap();
        promise10PressureHasAMost();
        promise10PressureAtTheTrap();
        promise10ShelvesThatAreAllRim();
        promise10TheLastUnitOfIce();
        promise11Unload();
        promise12Vial();
        promise12FallsInWhileItDries();
        promise13About();
        promise14Gauge();
        promise15End();
        promise15EndIsOfMinutesTogether();
        promise16Wet();
        promise17FirstFallen();
        check.finish();
    }

    /** One vial of 5000 that gives all in its first minute: 5427 at -143 would come, and 5430 is the heat. */
    private static ColdDryer burst() {
        ColdDryer x = new ColdDryer();
        x.shelf(1, 1);
        x.rule(0, 5000);
        x.rule(1, 50);
        x.rule(2, 50);
        x.rule(3, 1);
        x.rule(4, 10);
        x.rule(5, 0);
        x.warm(400);
        x.set(0);
        x.load();
        return x;
    }

    /** Nine vials of 200 on a shelf at 0; the rim is dry in its ninth minute, the one inside in its eleventh. */
    private static ColdDryer drying(int fall) {
        ColdDryer x = new ColdDryer();
        x.shelf(3, 3);
        x.rule(0, 200);
        x.rule(6, fall);
        x.warm(0);
        x.load();
        return x;
    }

    /** Nine vials that give no steam as the pressure is too great: only the cut of the heat tells rim from inside. */
    private static ColdDryer still() {
        ColdDryer x = new ColdDryer();
        x.shelf(3, 3);
        x.rule(1, 1);
        x.rule(2, 4);
        x.rule(6, -395);
        x.set(5000);
        x.load();
        return x;
    }

    private static void unchanged(String what, ColdDryer x, String before) {
        check.holds(what + " changes nothing", before.equals(Check.stateOf(x)));
    }

    private static void promise7Load() {
        ColdDryer x = new ColdDryer();
        x.rule(0, 321);
        x.set(77);
        check.due("load()", x.load(), 6);
        for (int i = 0; i < 6; i++) {
            check.due("full " + i, x.vial(i, 0), 321);
        }
        check.due("minute", x.about(0), 0);
        check.due("pressure as set", x.about(1), 77);
        x.warm(0);
        x.run(3);
        check.holds("there is steam", x.vial(0, 2) > 0);
        String before = Check.stateOf(x);
        check.due("load() under a load", x.load(), -3);
        unchanged("a refused load", x, before);
        x.unload();
        x.set(4000);
        check.due("load() again", x.load(), 6);
        check.due("minute of the new one", x.about(0), 0);
        check.due("pressure of the new one", x.about(1), 4000);
        check.due("greatest pressure of the new one", x.about(5), 4000);
        check.due("steam of the new one", x.about(3), 0);
        check.due("latest steam of the new one", x.about(4), 0);
        check.due("ice of the new one", x.about(2), 6 * 321);
        check.due("warmth in the new one", x.vial(0, 1), -6);
        check.due("steam of a vial of the new one", x.vial(0, 2), 0);
        check.due("a minute of the load before", x.gauge(1, 0), -1);
    }

    private static void promise8Warm() {
        ColdDryer x = new ColdDryer();
        check.due("warm(-600)", x.warm(-600), -400);
        check.due("warm(400)", x.warm(400), -600);
        for (int t : new int[] {-601, 401, Integer.MIN_VALUE, Integer.MAX_VALUE}) {
            check.due("warm(" + t + ")", x.warm(t), -10002);
            check.due("warmth stays", x.about(8), 400);
        }
        x.load();
        check.due("warm(-6) under a load", x.warm(-6), 400);
        String before = Check.stateOf(x);
        check.due("warm(401) under a load", x.warm(401), -10002);
        unchanged("a refused warm", x, before);
        x.unload();
        check.due("warmth outlasts the load", x.warm(0), -6);
    }

    private static void promise9Set() {
        ColdDryer x = new ColdDryer();
        check.due("set(0)", x.set(0), 100);
        check.due("set(5000)", x.set(5000), 0);
        for (int p : new int[] {-1, 5001, Integer.MIN_VALUE, Integer.MAX_VALUE}) {
            check.due("set(" + p + ")", x.set(p), -2);
            check.due("set stays", x.about(9), 5000);
        }
        x.load();
        check.due("set(7) under a load", x.set(7), 5000);
        String before = Check.stateOf(x);
        check.due("set(-1) under a load", x.set(-1), -2);
        unchanged("a refused set", x, before);
        x.unload();
        check.due("set outlasts the load", x.set(1), 7);
    }

    private static void promise9SetIsFeltAsAMinuteEnds() {
        ColdDryer x = drying(-200);
        x.set(5000);
        check.due("pressure ahead of the minute", x.about(1), 100);
        x.run(1);
        check.due("steam by the pressure as the minute began", x.vial(0, 2), 27);
        check.due("pressure behind it", x.about(1), 5000);
        check.due("greatest pressure", x.about(5), 5000);
        x.set(0);
        check.due("pressure stays till a minute is over", x.about(1), 5000);
        x.run(1);
        check.due("pressure falls by the pull", x.about(1), 4980);
        check.due("greatest pressure stays", x.about(5), 5000);
    }

    private static void promise10RunRefused() {
        ColdDryer x = new ColdDryer();
        check.due("run(1) without a load", x.run(1), -3);
        check.due("run(0) without a load: outside goes first", x.run(0), -2);
        x.load();
        String before = Check.stateOf(x);
        for (int n : new int[] {0, -1, 501, Integer.MIN_VALUE, Integer.MAX_VALUE}) {
            check.due("run(" + n + ")", x.run(n), -2);
        }
        unchanged("a refused run", x, before);
        check.due("run(500)", x.run(500), 500);
        check.due("run(500)", x.run(500), 1000);
        check.due("run(500)", x.run(500), 1500);
        check.due("run(499)", x.run(499), 1999);
        check.due("run(2) beyond 2000", x.run(2), -3);
        check.due("run(501) beyond 2000: outside goes first", x.run(501), -2);
        check.due("minute stays", x.about(0), 1999);
        check.due("run(1) to 2000", x.run(1), 2000);
        check.due("run(1) beyond 2000", x.run(1), -3);
        check.due("gauge of the last minute", x.gauge(2000, 0), x.about(1));
        check.due("wet of the last minute", x.wet(2000), 6 - x.about(7));
        x.unload();
        x.load();
        check.due("run(1) of a new load", x.run(1), 1);
    }

    /** At -424: vapour 376, steam 27, cost 540, heat 13 times 424 by 10 is 551; at -423 560 is more than 549. */
    private static void promise10MinutesByHand() {
        ColdDryer x = drying(-200);
        check.due("run(1)", x.run(1), 1);
        check.due("warmth at the rim", x.vial(0, 1), -424);
        check.due("steam at the rim", x.vial(0, 2), 27);
        check.due("ice at the rim", x.vial(0, 0), 173);
        check.due("warmth inside", x.vial(4, 1), -435);
        check.due("steam inside", x.vial(4, 2), 21);
        check.due("all", x.about(4), 8 * 27 + 21);
        x = burst();
        x.run(1);
        check.due("warmth of the burst", x.vial(0, 1), -143);
        check.due("it gives its ice at most", x.vial(0, 2), 5000);
        check.due("no ice is left", x.vial(0, 0), 0);
    }

    /** Heat 1 times -9 by 10 is cut to 0, heat 5 times -1 by 10 too: so ice may be a little above the shelf. */
    private static void promise10WarmthIsCutTowardsNought() {
        ColdDryer x = still();
        x.run(1);
        check.due("warmth at the rim", x.vial(0, 1), -399);
        check.due("warmth inside", x.vial(4, 1), -391);
        x.warm(-600);
        x.run(1);
        check.due("warmth on the coldest shelf", x.vial(4, 1), -591);
        x = new ColdDryer();
        x.rule(3, 1);
        x.rule(4, 1000);
        x.rule(1, 50);
        x.warm(400);
        x.load();
        x.run(1);
        check.due("ice is never above 0", x.vial(0, 1), 0);
        check.due("steam at 0", x.vial(0, 2), 118);
    }

    private static void promise10ADryingLoad() {
        ColdDryer x = drying(-200);
        int[] rimIce = {173, 147, 123, 100, 77, 55, 34, 13, 0, 0, 0, 0};
        int[] rimWarmth = {-424, -400, -382, -369, -355, -346, -339, -329, -324, 0, 0, 0};
        int[] innerIce = {179, 159, 139, 120, 101, 83, 65, 48, 31, 14, 0, 0};
        int[] innerWarmth = {-435, -418, -402, -392, -380, -373, -364, -360, -352, -346, -340, 0};
        for (int m = 0; m < rimIce.length; m++) {
            check.due("run(1)", x.run(1), m + 1);
            check.due("ice at the rim behind minute " + m, x.vial(8, 0), rimIce[m]);
            check.due("warmth at the rim in minute " + m, x.vial(8, 1), rimWarmth[m]);
            check.due("ice inside behind minute " + m, x.vial(4, 0), innerIce[m]);
            check.due("warmth inside in minute " + m, x.vial(4, 1), innerWarmth[m]);
        }
        ColdDryer y = drying(-200);
        y.run(12);
        check.holds("twelve minutes are twelve times one", Check.stateOf(x).equals(Check.stateOf(y)));
    }

    private static void promise10PressureBeyondTheTrap() {
        ColdDryer x = burst();
        x.run(1);
        check.due("5000 less 300, by 5", x.about(1), 940);
        x.run(1);
        check.due("less by the pull", x.about(1), 920);
        x.set(915);
        x.run(1);
        check.due("not below set", x.about(1), 915);
        x.set(930);
        x.run(1);
        check.due("at least set", x.about(1), 930);
        check.due("greatest pressure", x.about(5), 940);
    }

    private static void promise10PressureHasAMost() {
        ColdDryer x = new ColdDryer();
        x.shelf(4, 6);
        int[] rules = {5000, 50, 50, 1, 10, 0, -200, 1, 1, 500, 10};
        for (int i = 0; i < rules.length; i++) {
            x.rule(i, rules[i]);
        }
        x.warm(400);
        x.load();
        x.run(1);
        check.due("the greatest pressure that can be", x.about(1), 20000);
        check.due("what other shows of it", x.gauge(1, 1), 20000 * 159 / 100);
        x.run(1);
        check.due("pull from there", x.about(1), 19500);
    }

    /** All is 237 in the first minute of the drying load. */
    private static void promise10PressureAtTheTrap() {
        int[][] due = {{237, 1, 100}, {236, 1, 101}, {236, 2, 100}, {227, 3, 103}, {37, 100, 102}};
        for (int[] d : due) {
            ColdDryer x = new ColdDryer();
            x.shelf(3, 3);
            x.rule(0, 200);
            x.rule(7, d[0]);
            x.rule(8, d[1]);
            x.warm(0);
            x.load();
            x.run(1);
            check.due("pressure with trap " + d[0] + " and gas " + d[1], x.about(1), d[2]);
        }
        check.due("what the trap can just take lets it fall", pressureAboveSet(237), 80);
        check.due("what it can't holds it, even if it is no whole one more", pressureAboveSet(236), 100);
    }

    private static int pressureAboveSet(int trap) {
        ColdDryer x = new ColdDryer();
        x.shelf(3, 3);
        x.rule(0, 200);
        x.rule(7, trap);
        x.warm(0);
        x.load();
        x.set(50);
        x.run(1);
        return x.about(1);
    }

    private static void promise10ShelvesThatAreAllRim() {
        int[][] shelves = {{1, 1}, {1, 6}, {4, 1}, {2, 6}, {4, 2}};
        for (int[] s : shelves) {
            int vials = s[0] * s[1];
            ColdDryer x = new ColdDryer();
            x.shelf(s[0], s[1]);
            x.warm(0);
            x.load();
            x.run(1);
            check.due("steam of all of " + s[0] + " by " + s[1], x.about(4), vials * 27);
            check.due("ice of all of them", x.about(2), vials * 973);
            check.due("vials with ice", x.wet(1), vials);
        }
    }

    /** At 0 with pressure 100 and 1000 to bar it, each gives 118 in the first minute. */
    private static void promise10TheLastUnitOfIce() {
        ColdDryer x = new ColdDryer();
        x.shelf(3, 3);
        int[] rules = {119, 50, 0, 1, 1000};
        for (int i = 0; i < rules.length; i++) {
            x.rule(i, rules[i]);
        }
        x.warm(400);
        x.load();
        x.run(1);
        check.due("ice", x.vial(0, 0), 1);
        check.due("all have ice", x.wet(1), 9);
        check.due("none is without", x.about(7), 0);
        check.due("none has seen its last", x.vial(0, 4), -6);
        x.run(1);
        check.due("steam", x.vial(0, 2), 1);
        check.due("its last went", x.vial(0, 4), 1);
        check.due("all are without", x.about(7), 9);
    }

    private static void promise11Unload() {
        ColdDryer x = new ColdDryer();
        check.due("unload() without a load", x.unload(), -3);
        x = drying(-200);
        check.due("unload() at once", x.unload(), 9);
        check.due("it is gone", x.told(3), 0);
        check.due("unload() again", x.unload(), -3);
        int[][] due = {{8, 9}, {9, 1}, {10, 1}, {11, 0}};
        for (int[] d : due) {
            x = drying(-200);
            x.run(d[0]);
            check.due("unload() behind " + d[0], x.unload(), d[1]);
        }
    }

    private static void promise12Vial() {
        ColdDryer x = new ColdDryer();
        check.due("vial(0, 0) without a load", x.vial(0, 0), -10003);
        check.due("vial(6, 5) without a load: that goes first", x.vial(6, 5), -10003);
        x.load();
        int[] atFirst = {1000, -6, 0, -6, -6};
        for (int what = 0; what <= 4; what++) {
            check.due("vial(5, " + what + ") at first", x.vial(5, what), atFirst[what]);
        }
        for (int i : new int[] {-1, 6, Integer.MIN_VALUE, Integer.MAX_VALUE}) {
            check.due("vial(" + i + ", 0)", x.vial(i, 0), -10001);
            check.due("vial(" + i + ", 9): unknown goes first", x.vial(i, 9), -10001);
        }
        for (int what : new int[] {-1, 5, Integer.MIN_VALUE, Integer.MAX_VALUE}) {
            check.due("vial(0, " + what + ")", x.vial(0, what), -10002);
        }
        x = drying(-350);
        x.run(9);
        int[] rim = {0, -324, 13, 5, 8};
        int[] inner = {31, -352, 17, -6, -6};
        for (int what = 0; what <= 4; what++) {
            check.due("vial(3, " + what + ") behind 9", x.vial(3, what), rim[what]);
            check.due("vial(4, " + what + ") behind 9", x.vial(4, what), inner[what]);
        }
        x.run(2);
        int[] rimLater = {0, 0, 0, 5, 8};
        int[] innerLater = {0, -340, 14, 9, 10};
        for (int what = 0; what <= 4; what++) {
            check.due("vial(3, " + what + ") behind 11", x.vial(3, what), rimLater[what]);
            check.due("vial(4, " + what + ") behind 11", x.vial(4, what), innerLater[what]);
        }
    }

    private static void promise12FallsInWhileItDries() {
        ColdDryer x = drying(-325);
        x.run(12);
        check.due("in the minute of its last ice", x.vial(0, 3), 8);
        check.due("not at the warmth of fall itself", fellAt(-324), -6);
        check.due("a vial without ice does not fall in", x.vial(4, 3), -6);
    }

    private static int fellAt(int fall) {
        ColdDryer x = drying(fall);
        x.run(12);
        return x.vial(0, 3);
    }

    private static void promise13About() {
        ColdDryer x = new ColdDryer();
        for (int what = 0; what <= 7; what++) {
            check.due("about(" + what + ") without a load", x.about(what), -10003);
        }
        check.due("about(8) without a load", x.about(8), -400);
        check.due("about(9) without a load", x.about(9), 100);
        for (int what : new int[] {-1, 10, Integer.MIN_VALUE, Integer.MAX_VALUE}) {
            check.due("about(" + what + ") without a load: outside goes first", x.about(what), -10002);
        }
        x = drying(-350);
        abouts("at first", x, 0, 100, 1800, 0, 0, 100, 0, 0, 0, 100);
        x.run(9);
        abouts("behind 9", x, 9, 100, 31, 1769, 121, 100, 8, 8, 0, 100);
        x.run(3);
        x.warm(20);
        x.set(60);
        abouts("behind 12", x, 12, 100, 0, 1800, 0, 100, 9, 9, 20, 60);
        for (int what : new int[] {-1, 10, Integer.MIN_VALUE, Integer.MAX_VALUE}) {
            check.due("about(" + what + ")", x.about(what), -10002);
        }
        x = burst();
        x.run(3);
        abouts("of the burst behind 3", x, 3, 900, 0, 5000, 0, 940, 1, 1, 400, 0);
    }

    private static void abouts(String when, ColdDryer x, int... due) {
        for (int what = 0; what < due.length; what++) {
            check.due("about(" + what + ") " + when, x.about(what), due[what]);
        }
    }

    /** Behind the burst: 60 times 5000 by 5010 is 59, and 940 times 159 by 100 is 1494. */
    private static void promise14Gauge() {
        ColdDryer x = new ColdDryer();
        check.due("gauge(1, 0) without a load", x.gauge(1, 0), -3);
        check.due("gauge(0, 5) without a load: that goes first", x.gauge(0, 5), -3);
        x = burst();
        check.due("gauge(1, 0) at first", x.gauge(1, 0), -1);
        x.run(2);
        check.due("gauge(1, 0)", x.gauge(1, 0), 940);
        check.due("gauge(1, 1)", x.gauge(1, 1), 1494);
        check.due("gauge(2, 0)", x.gauge(2, 0), 920);
        check.due("gauge(2, 1)", x.gauge(2, 1), 920);
        for (int minute : new int[] {0, -1, 3, 2001, Integer.MIN_VALUE, Integer.MAX_VALUE}) {
            check.due("gauge(" + minute + ", 0)", x.gauge(minute, 0), -1);
            check.due("gauge(" + minute + ", 2): unknown goes first", x.gauge(minute, 2), -1);
        }
        for (int which : new int[] {-1, 2, Integer.MIN_VALUE, Integer.MAX_VALUE}) {
            check.due("gauge(1, " + which + ")", x.gauge(1, which), -2);
        }
        x.run(40);
        check.due("what was shown stays", x.gauge(1, 1), 1494);
        x = drying(-200);
        x.run(11);
        check.due("gauge(1, 1) of the drying load", x.gauge(1, 1), 157);
        check.due("gauge(9, 1) of the drying load", x.gauge(9, 1), 155);
        check.due("gauge(11, 1) of the drying load", x.gauge(11, 1), 135);
    }

    /** Other less one is 57 in the first minutes of the drying load, 37 in the 10th, 35 in the 11th, then 0. */
    private static void promise15End() {
        ColdDryer x = new ColdDryer();
        check.due("end(0, 1) without a load", x.end(0, 1), -3);
        check.due("end(101, 1) without a load: outside goes first", x.end(101, 1), -2);
        x = drying(-200);
        check.due("end(100, 1) at first", x.end(100, 1), -6);
        x.run(1);
        check.due("end(57, 1) behind 1", x.end(57, 1), 1);
        check.due("end(56, 1) behind 1", x.end(56, 1), -6);
        check.due("end(100, 2) behind 1", x.end(100, 2), -6);
        x.run(12);
        check.due("end(37, 1)", x.end(37, 1), 10);
        check.due("end(36, 1)", x.end(36, 1), 11);
        check.due("end(37, 2)", x.end(37, 2), 11);
        check.due("end(34, 1)", x.end(34, 1), 12);
        check.due("end(0, 2)", x.end(0, 2), 13);
        check.due("end(0, 3) not yet", x.end(0, 3), -6);
        x.run(58);
        check.due("end(0, 60)", x.end(0, 60), 71);
        check.due("end(100, 60)", x.end(100, 60), 60);
        int[][] wrong = {{-1, 1}, {101, 1}, {0, 0}, {0, 61}, {0, -1}, {Integer.MIN_VALUE, 1}, {0, Integer.MAX_VALUE}};
        for (int[] w : wrong) {
            check.due("end(" + w[0] + ", " + w[1] + ")", x.end(w[0], w[1]), -2);
        }
    }

    private static void promise15EndIsOfMinutesTogether() {
        ColdDryer x = new ColdDryer();
        x.warm(-600);
        x.load();
        x.run(2);
        x.warm(0);
        x.run(1);
        x.warm(-600);
        x.run(3);
        check.due("end(0, 1)", x.end(0, 1), 1);
        check.due("end(0, 2)", x.end(0, 2), 2);
        check.due("end(0, 3) begins again behind the third", x.end(0, 3), 6);
        check.due("end(0, 4)", x.end(0, 4), -6);
    }

    private static void promise16Wet() {
        ColdDryer x = new ColdDryer();
        check.due("wet(0) without a load", x.wet(0), -3);
        check.due("wet(-1) without a load: that goes first", x.wet(-1), -3);
        x = drying(-200);
        check.due("wet(0)", x.wet(0), 9);
        check.due("wet(1) at first", x.wet(1), -1);
        x.run(12);
        int[] due = {9, 9, 9, 9, 9, 9, 9, 9, 9, 1, 1, 0, 0};
        for (int minute = 0; minute < due.length; minute++) {
            check.due("wet(" + minute + ")", x.wet(minute), due[minute]);
        }
        for (int minute : new int[] {-1, 13, 2001, Integer.MIN_VALUE, Integer.MAX_VALUE}) {
            check.due("wet(" + minute + ")", x.wet(minute), -1);
        }
        x.unload();
        x.shelf(1, 2);
        x.load();
        check.due("wet(0) of a new load", x.wet(0), 2);
    }

    private static void promise17FirstFallen() {
        ColdDryer x = new ColdDryer();
        check.due("firstFallen() without a load", x.firstFallen(), -3);
        x.load();
        check.due("firstFallen() at first", x.firstFallen(), -6);
        x = drying(-350);
        x.run(5);
        check.due("firstFallen() behind 5", x.firstFallen(), -6);
        x.run(1);
        check.due("firstFallen() behind 6", x.firstFallen(), 0);
        x.run(6);
        check.due("firstFallen() behind 12", x.firstFallen(), 0);
        x = still();
        x.run(1);
        check.due("inside first", x.firstFallen(), 4);
        check.due("one fell in", x.about(6), 1);
        x.warm(-390);
        x.run(1);
        check.due("by minutes, then numbers", x.firstFallen(), 4);
        check.due("rim later", x.vial(0, 3), 1);
        check.due("all fell in", x.about(6), 9);
        x.unload();
        x.rule(6, -400);
        x.warm(-400);
        x.load();
        x.run(1);
        check.due("by numbers in one minute", x.firstFallen(), 0);
        check.due("where none is inside, none falls in there", firstOfARimThatHolds(), -6);
        check.due("all in one minute", x.about(6), 9);
    }

    private static int firstOfARimThatHolds() {
        ColdDryer x = new ColdDryer();
        x.rule(1, 1);
        x.rule(2, 4);
        x.rule(6, -395);
        x.set(5000);
        x.load();
        x.run(1);
        return x.firstFallen();
    }
}
