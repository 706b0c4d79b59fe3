/** Promises 1 to 6, and 21: a new object, the shelf and its rules, vapour, steam, the rim, what is told. */
public final class ShelfTest {
    private static final int[] LEAST = {100, 1, 0, 1, 10, 0, -600, 1, 1, 1, 1};
    private static final int[] MOST = {5000, 50, 50, 50, 1000, 50, 0, 10000, 100, 500, 1000};
    private static final int[] AT_FIRST = {1000, 10, 3, 20, 100, 5, -200, 300, 5, 20, 10};

    private static final Check check = new Check("ShelfTest");

    public static void main(String[] args) {
        promise1AsToldAtFirst();
        promise2Shelf();
        promise2ShelfUnderALoad();
        promise2TriedStays();
        promise3RulesWithTheirBounds();
        promise3RulesThatAreNot();
        promise3RulesUnderALoad();
        promise4Vapour();
        promise5Steam();
        promise6Rim();
        promise21Told();
        check.finish();
    }

    private static void promise1AsToldAtFirst() {
        ColdDryer x = new ColdDryer();
        check.due("rows", x.told(0), 2);
        check.due("columns", x.told(1), 3);
        check.due("vials", x.told(2), 6);
        check.due("whether there is a load", x.told(3), 0);
        for (int i = 0; i < AT_FIRST.length; i++) {
            check.due("rule " + i + " at first", x.told(10 + i), AT_FIRST[i]);
        }
        check.due("shelf's warmth at first", x.about(8), -400);
        check.due("set at first", x.about(9), 100);
        check.due("minute without a load", x.about(0), -10003);
        check.due("tried at first", x.tried(0), -3);
        check.due("unload at first", x.unload(), -3);
    }

    private static void promise2Shelf() {
        ColdDryer x = new ColdDryer();
        for (int rows = 1; rows <= 4; rows++) {
            for (int columns = 1; columns <= 6; columns++) {
                check.due("shelf(" + rows + ", " + columns + ")", x.shelf(rows, columns), rows * columns);
                check.due("rows", x.told(0), rows);
                check.due("columns", x.told(1), columns);
                check.due("vials", x.told(2), rows * columns);
            }
        }
        int[][] wrong = {{0, 1}, {5, 1}, {1, 0}, {1, 7}, {-1, -1}, {Integer.MIN_VALUE, 3}, {2, Integer.MAX_VALUE}};
        String before = Check.stateOf(x);
        for (int[] w : wrong) {
            check.due("shelf(" + w[0] + ", " + w[1] + ")", x.shelf(w[0], w[1]), -2);
        }
        check.holds("a refused shelf changes nothing", before.equals(Check.stateOf(x)));
        x.shelf(4, 5);
        check.due("load of that shelf", x.load(), 20);
    }

    private static void promise2ShelfUnderALoad() {
        ColdDryer x = new ColdDryer();
        x.load();
        x.run(2);
        String before = Check.stateOf(x);
        check.due("shelf under a load", x.shelf(3, 3), -3);
        check.due("shelf outside is told ahead of the load", x.shelf(5, 3), -2);
        check.holds("a refused shelf changes nothing", before.equals(Check.stateOf(x)));
        x.unload();
        check.due("shelf without the load", x.shelf(3, 3), 9);
    }

    /** Vial 4 is the first to fall in on 3 by 3, as the cut lets the weaker heat balance at the greater warmth. */
    private static void promise2TriedStays() {
        ColdDryer x = new ColdDryer();
        x.shelf(3, 3);
        x.rule(1, 1);
        x.rule(2, 4);
        x.rule(6, -395);
        check.due("trial", x.trial(-400, 5000, 7), 0);
        x.shelf(3, 5);
        check.due("tried(0)", x.tried(0), 7);
        check.due("tried(1)", x.tried(1), 4);
        check.due("tried(2)", x.tried(2), 0);
        check.due("tried(3)", x.tried(3), 5000);
        check.due("tried(4)", x.tried(4), 9);
    }

    private static void promise3RulesWithTheirBounds() {
        for (int i = 0; i < LEAST.length; i++) {
            ColdDryer x = new ColdDryer();
            check.due("rule " + i + " to its least", x.rule(i, LEAST[i]), AT_FIRST[i]);
            check.due("rule " + i + " told", x.told(10 + i), LEAST[i]);
            check.due("rule " + i + " to its most", x.rule(i, MOST[i]), LEAST[i]);
            check.due("rule " + i + " told", x.told(10 + i), MOST[i]);
            String before = Check.stateOf(x);
            check.due("rule " + i + " below its least", x.rule(i, LEAST[i] - 1), -10002);
            check.due("rule " + i + " above its most", x.rule(i, MOST[i] + 1), -10002);
            check.due("rule " + i + " far below", x.rule(i, Integer.MIN_VALUE), -10002);
            check.due("rule " + i + " far above", x.rule(i, Integer.MAX_VALUE), -10002);
            check.holds("a refused rule changes nothing", before.equals(Check.stateOf(x)));
            check.due("rule " + i + " to the middle", x.rule(i, (LEAST[i] + MOST[i]) / 2), MOST[i]);
        }
    }

    private static void promise3RulesThatAreNot() {
        ColdDryer x = new ColdDryer();
        String before = Check.stateOf(x);
        for (int which : new int[] {-1, 11, 12, Integer.MIN_VALUE, Integer.MAX_VALUE}) {
            check.due("rule(" + which + ", 50)", x.rule(which, 50), -10001);
            check.due("rule(" + which + ", -9999): unknown goes first", x.rule(which, -9999), -10001);
        }
        check.holds("a refused rule changes nothing", before.equals(Check.stateOf(x)));
    }

    private static void promise3RulesUnderALoad() {
        ColdDryer x = new ColdDryer();
        x.load();
        x.run(1);
        String before = Check.stateOf(x);
        for (int i = 0; i < LEAST.length; i++) {
            check.due("rule " + i + " under a load", x.rule(i, LEAST[i]), -10003);
            check.due("rule " + i + " outside goes ahead of the load", x.rule(i, LEAST[i] - 1), -10002);
        }
        check.due("rule 11 goes ahead of the load", x.rule(11, 1), -10001);
        check.holds("a refused rule changes nothing", before.equals(Check.stateOf(x)));
        x.unload();
        check.due("rule without the load", x.rule(0, 100), 1000);
    }

    /** By hand: W(0) 8 by 20 is 0, W(1) 27 by 20 is 1, W(2) 64 by 20 is 3, W(59) 11349, W(60) 11916. */
    private static void promise4Vapour() {
        ColdDryer x = new ColdDryer();
        int[][] due = {{-600, 0}, {-595, 0}, {-591, 0}, {-590, 1}, {-585, 2}, {-581, 2}, {-580, 3}, {-424, 376},
            {-300, 1638}, {-295, 1717}, {-200, 3704}, {-10, 11349}, {-1, 11859}, {0, 11916}};
        for (int[] d : due) {
            check.due("vapour(" + d[0] + ")", x.vapour(d[0]), d[1]);
        }
        for (int t : new int[] {-601, 1, 10, Integer.MIN_VALUE, Integer.MAX_VALUE}) {
            check.due("vapour(" + t + ")", x.vapour(t), -2);
        }
    }

    private static void promise5Steam() {
        ColdDryer x = new ColdDryer();
        int[][] due = {{-200, 0, 100, 360}, {-200, 100, 100, 60}, {-200, 50, 100, 102}, {-600, 0, 0, 0},
            {-200, 0, 3704, 0}, {-200, 0, 3695, 0}, {-200, 0, 3694, 1}, {-200, 0, 3705, 0}, {0, 0, 20000, 0},
            {0, 0, 0, 1191}, {0, 100, 0, 198}};
        for (int[] d : due) {
            check.due("steam(" + d[0] + ", " + d[1] + ", " + d[2] + ")", x.steam(d[0], d[1], d[2]), d[3]);
        }
        x.rule(4, 10);
        x.rule(5, 0);
        check.due("steam of a bare one", x.steam(-200, 100, 100), 3604);
        x.rule(5, 50);
        check.due("steam through a cake", x.steam(-200, 3, 100), 225);
        int[][] wrong = {{-601, 0, 0}, {1, 0, 0}, {0, -1, 0}, {0, 101, 0}, {0, 0, -1}, {0, 0, 20001},
            {Integer.MIN_VALUE, 0, 0}, {0, Integer.MAX_VALUE, 0}, {0, 0, Integer.MIN_VALUE}};
        for (int[] w : wrong) {
            check.due("steam(" + w[0] + ", " + w[1] + ", " + w[2] + ")", x.steam(w[0], w[1], w[2]), -2);
        }
    }

    private static void promise6Rim() {
        rims(1, 1, "1");
        rims(1, 6, "111111");
        rims(4, 1, "1111");
        rims(2, 3, "111111");
        rims(4, 2, "11111111");
        rims(3, 3, "111101111");
        rims(3, 4, "111110011111");
        rims(4, 3, "111101101111");
        rims(4, 6, "111111100001100001111111");
    }

    private static void rims(int rows, int columns, String due) {
        ColdDryer x = new ColdDryer();
        x.shelf(rows, columns);
        String shelf = "rim of " + rows + " by " + columns + ": ";
        for (int i = 0; i < due.length(); i++) {
            check.due(shelf + i, x.rim(i), due.charAt(i) - '0');
        }
        for (int i : new int[] {-1, due.length(), Integer.MIN_VALUE, Integer.MAX_VALUE}) {
            check.due(shelf + i, x.rim(i), -1);
        }
        x.load();
        check.due(shelf + "0 under a load", x.rim(0), 1);
    }

    private static void promise21Told() {
        ColdDryer x = new ColdDryer();
        x.shelf(4, 5);
        for (int i = 0; i < MOST.length; i++) {
            x.rule(i, MOST[i]);
        }
        check.due("told(0)", x.told(0), 4);
        check.due("told(1)", x.told(1), 5);
        check.due("told(2)", x.told(2), 20);
        check.due("told(3)", x.told(3), 0);
        for (int i = 0; i < MOST.length; i++) {
            check.due("told(" + (10 + i) + ")", x.told(10 + i), MOST[i]);
        }
        x.load();
        check.due("told(3) with a load", x.told(3), 1);
        check.due("told(16) with a load", x.told(16), 0);
        x.unload();
        check.due("told(3) without it", x.told(3), 0);
        int[] wrong = {-1, 4, 9, 21, Integer.MIN_VALUE, Integer.MIN_VALUE + 9, Integer.MIN_VALUE + 10,
            Integer.MAX_VALUE};
        for (int what : wrong) {
            check.due("told(" + what + ")", x.told(what), -10002);
        }
    }
}
