/** Promises 18 to 20: trials, what they tell, and the edge. */
public final class MapTest {
    private static final Check check = new Check("MapTest");

    public static void main(String[] args) {
        promise18Trial();
        promise18TrialRefused();
        promise18WhatThereIsStays();
        promise19Tried();
        promise19TriedOfALaterMinute();
        promise19ATrialEndsWithTheIce();
        promise20Edge();
        promise20FirstTrialFails();
        promise20EdgeIsAheadOfTheFirstThatFails();
        promise20TriedIsOfTheLastTrial();
        promise20EdgeRefused();
        promise20WhatThereIsStays();
        check.finish();
    }

    /** At a set of 5000 no ice below -150 gives steam, so it is as warm as the shelf. */
    private static void promise18Trial() {
        ColdDryer x = new ColdDryer();
        x.rule(6, -300);
        check.due("as warm as fall", x.trial(-300, 5000, 5), 1);
        check.due("a tenth above", x.trial(-299, 5000, 5), 0);
        check.due("the coldest", x.trial(-600, 0, 1), 1);
        check.due("the warmest, the longest", x.trial(400, 5000, 100), 0);
        x.rule(6, -299);
        check.due("by the rules as they are", x.trial(-299, 5000, 5), 1);
        x.shelf(3, 3);
        x.rule(1, 1);
        x.rule(2, 4);
        x.rule(6, -395);
        check.due("inside alone", x.trial(-400, 5000, 5), 0);
        x.shelf(2, 3);
        check.due("by the shelf as it is", x.trial(-400, 5000, 5), 1);
        triedIs("of a shelf that is all rim", x, 5, -6, -6, 5000, 6);
    }

    private static void promise18TrialRefused() {
        ColdDryer x = new ColdDryer();
        x.rule(6, -300);
        int[][] wrong = {{-601, 0, 1}, {401, 0, 1}, {0, -1, 1}, {0, 5001, 1}, {0, 0, 0}, {0, 0, 101}, {0, 0, -1},
            {Integer.MIN_VALUE, 0, 1}, {0, Integer.MAX_VALUE, 1}, {0, 0, Integer.MAX_VALUE}};
        for (int[] w : wrong) {
            check.due("trial(" + w[0] + ", " + w[1] + ", " + w[2] + ")", x.trial(w[0], w[1], w[2]), -2);
            check.due("a refused trial is none", x.tried(0), -3);
        }
        x.trial(-299, 5000, 5);
        String before = Check.stateOf(x);
        for (int[] w : wrong) {
            x.trial(w[0], w[1], w[2]);
        }
        check.holds("a refused trial changes nothing", before.equals(Check.stateOf(x)));
    }

    /** What there is, without what is told of the latest trial: its last words are tried() and firstFallen(). */
    private static String stateBehindATrial(ColdDryer x) {
        x.trial(-500, 100, 1);
        return Check.stateOf(x);
    }

    private static ColdDryer underWay() {
        ColdDryer x = new ColdDryer();
        x.shelf(3, 4);
        x.rule(6, -380);
        x.rule(0, 150);
        x.warm(-50);
        x.load();
        x.run(7);
        return x;
    }

    private static void promise18WhatThereIsStays() {
        ColdDryer x = underWay();
        String before = stateBehindATrial(x);
        x.trial(400, 5000, 100);
        x.trial(-600, 0, 1);
        check.holds("a trial leaves the load", before.equals(stateBehindATrial(x)));
        x.run(5);
        ColdDryer y = underWay();
        y.run(5);
        check.holds("the load goes on as ever", stateBehindATrial(x).equals(stateBehindATrial(y)));
        x.unload();
        x.trial(-300, 100, 10);
        check.due("a trial makes no load", x.told(3), 0);
        check.due("nor warmth", x.about(8), -50);
        check.due("nor a set", x.about(9), 100);
    }

    private static void triedIs(String when, ColdDryer x, int... due) {
        for (int what = 0; what < due.length; what++) {
            check.due("tried(" + what + ") " + when, x.tried(what), due[what]);
        }
    }

    private static void promise19Tried() {
        ColdDryer x = new ColdDryer();
        for (int what = 0; what <= 4; what++) {
            check.due("tried(" + what + ") at first", x.tried(what), -3);
        }
        int[] wrong = {-1, 5, Integer.MIN_VALUE, Integer.MAX_VALUE};
        for (int what : wrong) {
            check.due("tried(" + what + ") at first: outside goes first", x.tried(what), -2);
        }
        x.rule(6, -300);
        x.trial(-300, 5000, 5);
        triedIs("when none fell in", x, 5, -6, -6, 5000, 6);
        x.trial(-299, 4999, 6);
        triedIs("when all did at once, and on to the end", x, 6, 0, 0, 4999, 6);
        for (int what : wrong) {
            check.due("tried(" + what + ")", x.tried(what), -2);
        }
        x.load();
        triedIs("under a load", x, 6, 0, 0, 4999, 6);
        x.unload();
        x.rule(6, 0);
        triedIs("behind other rules", x, 6, 0, 0, 4999, 6);
    }

    /** The drying load of LoadTest: the rim is at -346 in minute 5, the one inside in minute 9. */
    private static void promise19TriedOfALaterMinute() {
        ColdDryer x = new ColdDryer();
        x.shelf(3, 3);
        x.rule(0, 200);
        x.rule(6, -350);
        check.due("till the minute ahead", x.trial(0, 100, 5), 1);
        triedIs("till the minute ahead", x, 5, -6, -6, 100, 9);
        check.due("with that minute", x.trial(0, 100, 6), 0);
        triedIs("with that minute", x, 6, 0, 5, 100, 9);
        check.due("when the rim is dry", x.trial(0, 100, 9), 0);
        triedIs("when the rim is dry", x, 9, 0, 5, 100, 1);
        check.due("to the end of the ice", x.trial(0, 100, 100), 0);
        triedIs("to the end of the ice", x, 11, 0, 5, 100, 0);
        x.rule(6, -324);
        check.due("none above -324", x.trial(0, 100, 100), 1);
    }

    /** The burst of LoadTest: 5000 in one minute, and pressure 940. */
    private static void promise19ATrialEndsWithTheIce() {
        ColdDryer x = new ColdDryer();
        x.shelf(1, 1);
        int[] rules = {5000, 50, 50, 1, 10, 0, -143};
        for (int i = 0; i < rules.length; i++) {
            x.rule(i, rules[i]);
        }
        check.due("the burst at its fall", x.trial(400, 0, 100), 1);
        triedIs("of the burst", x, 1, -6, -6, 940, 0);
        x.rule(6, -144);
        check.due("the burst above its fall", x.trial(400, 0, 100), 0);
        triedIs("of the burst above its fall", x, 1, 0, 0, 940, 0);
    }

    private static void promise20Edge() {
        ColdDryer x = new ColdDryer();
        int[][] due = {{-300, -300}, {-299, -300}, {-301, -350}, {-251, -300}, {-250, -250}, {-600, -600},
            {-551, -600}, {-550, -550}};
        for (int[] d : due) {
            x.rule(6, d[0]);
            check.due("edge with fall " + d[0], x.edge(5000, 5), d[1]);
        }
        x.rule(6, 0);
        check.due("none fails", x.edge(5000, 100), 400);
        check.due("none fails at 0", x.edge(0, 1), 400);
    }

    /** Heat 1 times -9 by 10 is cut to 0: the ice is at -591 on a shelf at -600. */
    private static void promise20FirstTrialFails() {
        ColdDryer x = new ColdDryer();
        x.rule(1, 1);
        x.rule(2, 0);
        x.rule(6, -592);
        check.due("the first trial fails", x.edge(0, 1), -10000);
        triedIs("of it", x, 1, 0, 0, 0, 6);
        x.rule(6, -591);
        check.due("the first trial passes", x.edge(0, 1), -600);
    }

    private static void promise20EdgeIsAheadOfTheFirstThatFails() {
        for (int fall = -580; fall <= -20; fall += 40) {
            ColdDryer x = new ColdDryer();
            x.shelf(3, 3);
            x.rule(0, 200);
            x.rule(6, fall);
            for (int pressure = 0; pressure <= 1200; pressure += 400) {
                int safe = -10000;
                for (int t = -600; t <= 400 && x.trial(t, pressure, 12) == 1; t += 50) {
                    safe = t;
                }
                check.due("edge(" + pressure + ", 12) with fall " + fall, x.edge(pressure, 12), safe);
            }
        }
    }

    private static void promise20TriedIsOfTheLastTrial() {
        ColdDryer x = new ColdDryer();
        x.rule(6, -301);
        check.due("edge(5000, 7)", x.edge(5000, 7), -350);
        triedIs("of the one that failed", x, 7, 0, 0, 5000, 6);
        x.rule(6, 0);
        x.rule(0, 100);
        check.due("edge(100, 100)", x.edge(100, 100), 400);
        int[] byEdge = new int[5];
        for (int what = 0; what <= 4; what++) {
            byEdge[what] = x.tried(what);
        }
        x.trial(400, 100, 100);
        triedIs("of the last one at 400", x, byEdge);
        check.due("it ended with the ice", byEdge[4], 0);
    }

    private static void promise20EdgeRefused() {
        ColdDryer x = new ColdDryer();
        int[][] wrong = {{-1, 1}, {5001, 1}, {0, 0}, {0, 101}, {0, -1}, {Integer.MIN_VALUE, 1}, {0, Integer.MAX_VALUE}};
        for (int[] w : wrong) {
            check.due("edge(" + w[0] + ", " + w[1] + ")", x.edge(w[0], w[1]), -10002);
            check.due("a refused edge is no trial", x.tried(0), -3);
        }
        x.trial(0, 100, 3);
        String before = Check.stateOf(x);
        for (int[] w : wrong) {
            x.edge(w[0], w[1]);
        }
        check.holds("a refused edge changes nothing", before.equals(Check.stateOf(x)));
    }

    private static void promise20WhatThereIsStays() {
        ColdDryer x = underWay();
        String before = stateBehindATrial(x);
        x.edge(50, 30);
        check.holds("an edge leaves the load", before.equals(stateBehindATrial(x)));
    }
}
