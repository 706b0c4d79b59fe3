/** The boundary cases of part 1, promises 1 to 6, and of promise 21: one case for each that the document names. */
public final class ShelfBoundsTest {
    private static final String[] RULES = {"FILL", "HEAT", "RIM", "COST", "BARE", "CAKE", "FALL", "TRAP", "GAS", "PULL",
        "LEAK"};
    private static final int[] LEAST = {100, 1, 0, 1, 10, 0, -600, 1, 1, 1, 1};
    private static final int[] MOST = {5000, 50, 50, 50, 1000, 50, 0, 10000, 100, 500, 1000};
    private static final int[] AT_FIRST = {1000, 10, 3, 20, 100, 5, -200, 300, 5, 20, 10};

    private static final Script script = new Script("ShelfBoundsTest");

    public static void main(String[] args) {
        promise1();
        promise2();
        promise3();
        promise4();
        promise5();
        promise6();
        promise21();
        script.finish();
    }

    private static void promise1() {
        script.play("1 a new object: the shelf and the rules as told at first", """
            told(0) = 2; told(1) = 3; told(2) = 6
            told(10) = 1000; told(11) = 10; told(12) = 3; told(13) = 20; told(14) = 100; told(15) = 5; told(16) = -200
            told(17) = 300; told(18) = 5; told(19) = 20; told(20) = 10
            """);
        script.play("1 a new object: warmth and set as told at first", "about(8) = -400; about(9) = 100");
        script.play("1 a new object: there is no load", """
            told(3) = 0; run(1) = STATE; unload() = STATE; firstFallen() = STATE; end(0, 1) = STATE; wet(0) = STATE
            gauge(1, 0) = STATE; vial(0, 0) = LOST+STATE; about(0) = LOST+STATE; about(7) = LOST+STATE
            """);
        script.play("1 a new object: no trial was", "tried(0) = STATE; tried(4) = STATE");
        script.play("1 a new object: nothing bars shelf, rule and load", """
            shelf(2, 3) = 6; rule(0, 1000) = 1000; load() = 6
            """);
    }

    private static void promise2() {
        script.play("2 shelf: rows, the least", "shelf(1, 3) = 3; told(0) = 1; shelf(0, 3) = OUTSIDE; told(0) = 1");
        script.play("2 shelf: rows, the most", "shelf(4, 3) = 12; told(0) = 4; shelf(5, 3) = OUTSIDE; told(0) = 4");
        script.play("2 shelf: columns, the least", "shelf(2, 1) = 2; told(1) = 1; shelf(2, 0) = OUTSIDE; told(1) = 1");
        script.play("2 shelf: columns, the most", "shelf(2, 6) = 12; told(1) = 6; shelf(2, 7) = OUTSIDE; told(1) = 6");
        script.play("2 shelf: the smallest and the largest", """
            shelf(1, 1) = 1; told(2) = 1; load() = 1; unload() = 1; shelf(4, 6) = 24; told(2) = 24; load() = 24
            """);
        script.play("2 shelf: rows and columns are not one for the other", "shelf(6, 4) = OUTSIDE; shelf(4, 6) = 24");
        script.play("2 shelf: one number that is right does not help", """
            shelf(0, 6) = OUTSIDE; shelf(4, 0) = OUTSIDE; shelf(-1, -1) = OUTSIDE; shelf(-2, -3) = OUTSIDE
            told(0) = 2; told(1) = 3
            """);
        script.play("2 shelf: numbers whose product wraps", """
            shelf(MIN, 2) = OUTSIDE; shelf(2, MIN) = OUTSIDE; shelf(MAX, MAX) = OUTSIDE; shelf(65536, 65536) = OUTSIDE
            told(2) = 6
            """);
        script.play("2 shelf: there is a load", """
            load(); shelf(3, 3) = STATE; shelf(2, 3) = STATE; told(2) = 6; unload(); shelf(3, 3) = 9
            """);
        script.play("2 shelf: outside is ahead of state", """
            load(); shelf(0, 3) = OUTSIDE; shelf(2, 7) = OUTSIDE; shelf(5, 1) = OUTSIDE; shelf(1, 1) = STATE
            """);
        script.play("2 shelf: tried() stays", """
            trial(-300, 100, 3) = 1; shelf(1, 1) = 1
            tried(0) = 3; tried(1) = NONE; tried(2) = NONE; tried(3) = 100; tried(4) = 6
            """);
        script.play("2 shelf: tried() stays where a vial fell in that is no more", """
            shelf(3, 6); rule(1, 1); rule(2, 4); rule(6, -395); trial(-400, 5000, 2) = 0; tried(1) = 7; tried(2) = 0
            shelf(1, 1) = 1; tried(1) = 7; tried(2) = 0; tried(4) = 18
            """);
        script.play("2 shelf: no trial is made by it", "shelf(1, 1) = 1; tried(0) = STATE");
    }

    private static void promise3() {
        for (int i = 0; i < RULES.length; i++) {
            boundsOfRule(i);
        }
        script.play("3 rule: the first one and the last one", """
            rule(0, 100) = 1000; rule(-1, 100) = LOST+UNKNOWN; rule(10, 100) = 10; rule(11, 100) = LOST+UNKNOWN
            rule(MIN, 100) = LOST+UNKNOWN; rule(MAX, 100) = LOST+UNKNOWN; told(10) = 100; told(20) = 100
            """);
        script.play("3 rule: unknown is ahead of outside", """
            rule(-1, MIN) = LOST+UNKNOWN; rule(11, MAX) = LOST+UNKNOWN
            """);
        script.play("3 rule: unknown is ahead of state", """
            load(); rule(-1, 100) = LOST+UNKNOWN; rule(11, 100) = LOST+UNKNOWN; rule(11, MAX) = LOST+UNKNOWN
            """);
        script.play("3 rule: outside is ahead of state", """
            load(); rule(0, 99) = LOST+OUTSIDE; rule(10, 1001) = LOST+OUTSIDE; rule(0, 100) = LOST+STATE
            """);
        script.play("3 rule: even as it is, it can't be told under a load", """
            load(); rule(0, 1000) = LOST+STATE; rule(6, -200) = LOST+STATE; unload(); rule(6, -200) = -200
            """);
        script.play("3 rule: one does not change another", """
            rule(0, 5000); rule(1, 50); rule(2, 50); rule(3, 50); rule(4, 1000); rule(5, 50); rule(6, 0)
            rule(7, 10000); rule(8, 100); rule(9, 500); rule(10, 1000); told(10) = 5000; told(11) = 50; told(12) = 50
            told(13) = 50; told(14) = 1000; told(15) = 50; told(16) = 0; told(17) = 10000; told(18) = 100
            told(19) = 500; told(20) = 1000
            """);
    }

    private static void boundsOfRule(int i) {
        String name = "3 rule: " + RULES[i] + ", ";
        int told = 10 + i;
        script.play(name + "the least", "rule(" + i + ", " + LEAST[i] + ") = " + AT_FIRST[i]
            + "; rule(" + i + ", " + (LEAST[i] - 1) + ") = LOST+OUTSIDE; told(" + told + ") = " + LEAST[i]);
        script.play(name + "the most", "rule(" + i + ", " + MOST[i] + ") = " + AT_FIRST[i]
            + "; rule(" + i + ", " + (MOST[i] + 1) + ") = LOST+OUTSIDE; told(" + told + ") = " + MOST[i]);
        script.play(name + "far off", "rule(" + i + ", MIN) = LOST+OUTSIDE; rule(" + i + ", MAX) = LOST+OUTSIDE; told("
            + told + ") = " + AT_FIRST[i]);
        script.play(name + "there is a load", "load(); rule(" + i + ", " + LEAST[i] + ") = LOST+STATE; rule(" + i + ", "
            + MOST[i] + ") = LOST+STATE; rule(" + i + ", " + (LEAST[i] - 1) + ") = LOST+OUTSIDE; told(" + told + ") = "
            + AT_FIRST[i] + "; unload(); rule(" + i + ", " + MOST[i] + ") = " + AT_FIRST[i]);
    }

    private static void promise4() {
        script.play("4 vapour: the coldest", "vapour(-600) = 0; vapour(-601) = OUTSIDE; vapour(MIN) = OUTSIDE");
        script.play("4 vapour: the warmest", "vapour(0) = 11916; vapour(1) = OUTSIDE; vapour(MAX) = OUTSIDE");
        script.play("4 vapour: where a degree ends and the next begins", """
            vapour(-591) = 0; vapour(-590) = 1; vapour(-589) = 1; vapour(-310) = 1489
            vapour(-301) = 1623; vapour(-300) = 1638; vapour(-299) = 1653; vapour(-1) = 11859; vapour(-10) = 11349
            vapour(-9) = 11405
            """);
        script.play("4 vapour: each quotient is cut, the third power's ahead of the mean", """
            vapour(-595) = 0; vapour(-585) = 2; vapour(-581) = 2; vapour(-580) = 3
            """);
        script.play("4 vapour: no rule, load or pressure changes it", """
            set(5000); rule(4, 10); load(); run(1); vapour(-300) = 1638; vapour(1) = OUTSIDE
            """);
    }

    /** Vapour is 3704 at -200 and 11916 at 0; a full one is barred by 100, one that is dried by 600, at first. */
    private static void promise5() {
        script.play("5 steam: warmth, the least", """
            steam(-600, 0, 0) = 0; steam(-601, 0, 0) = OUTSIDE; steam(MIN, 0, 0) = OUTSIDE
            """);
        script.play("5 steam: warmth, the most", """
            steam(0, 0, 0) = 1191; steam(1, 0, 0) = OUTSIDE; steam(MAX, 0, 0) = OUTSIDE
            """);
        script.play("5 steam: hundredths, the least", """
            steam(0, 0, 0) = 1191; steam(0, -1, 0) = OUTSIDE; steam(0, MIN, 0) = OUTSIDE
            """);
        script.play("5 steam: hundredths, the most", """
            steam(0, 100, 0) = 198; steam(0, 101, 0) = OUTSIDE; steam(0, MAX, 0) = OUTSIDE
            """);
        script.play("5 steam: pressure, the least", """
            steam(-200, 0, 0) = 370; steam(-200, 0, -1) = OUTSIDE; steam(-200, 0, MIN) = OUTSIDE
            """);
        script.play("5 steam: pressure, the most", """
            steam(0, 0, 20000) = 0; steam(0, 0, 20001) = OUTSIDE; steam(0, 0, MAX) = OUTSIDE
            """);
        script.play("5 steam: vapour less pressure is 0 at least", """
            rule(4, 10); rule(5, 0)
            steam(-200, 0, 3703) = 1; steam(-200, 0, 3704) = 0; steam(-200, 0, 3705) = 0; steam(-600, 100, 20000) = 0
            """);
        script.play("5 steam: the quotient is cut", "steam(-200, 0, 3694) = 1; steam(-200, 0, 3695) = 0");
        script.play("5 steam: by bare and cake at their least", """
            rule(4, 10); rule(5, 0); steam(0, 0, 0) = 11916; steam(0, 100, 0) = 11916
            """);
        script.play("5 steam: by bare and cake at their most", """
            rule(4, 1000); rule(5, 50); steam(0, 0, 0) = 119; steam(0, 100, 0) = 19
            """);
        script.play("5 steam: with a load and without", """
            load(); steam(-200, 0, 100) = 360; steam(1, 0, 0) = OUTSIDE; unload(); steam(-200, 0, 100) = 360
            """);
    }

    private static void promise6() {
        script.play("6 rim: the first place and the last one", """
            rim(0) = 1; rim(-1) = UNKNOWN; rim(5) = 1; rim(6) = UNKNOWN
            """);
        script.play("6 rim: of the smallest shelf", "shelf(1, 1); rim(0) = 1; rim(1) = UNKNOWN; rim(-1) = UNKNOWN");
        script.play("6 rim: of the largest shelf", """
            shelf(4, 6); rim(6) = 1; rim(7) = 0; rim(10) = 0; rim(11) = 1; rim(12) = 1; rim(13) = 0; rim(16) = 0
            rim(17) = 1; rim(18) = 1; rim(23) = 1; rim(24) = UNKNOWN
            """);
        script.play("6 rim: one row, one column, two of either are all rim", """
            shelf(1, 6); rim(3) = 1; shelf(4, 1); rim(2) = 1; shelf(2, 6); rim(8) = 1; shelf(4, 2); rim(3) = 1
            """);
        script.play("6 rim: three rows and three columns are the first with one inside", """
            shelf(3, 3); rim(3) = 1; rim(4) = 0; rim(5) = 1
            """);
        script.play("6 rim: far off", "rim(MIN) = UNKNOWN; rim(MAX) = UNKNOWN");
        script.play("6 rim: by the shelf as it is", """
            shelf(4, 6); rim(23) = 1; shelf(3, 3); rim(9) = UNKNOWN; rim(8) = 1
            """);
        script.play("6 rim: with a load and without", """
            shelf(3, 3); load(); rim(4) = 0; rim(9) = UNKNOWN; unload(); rim(4) = 0
            """);
    }

    private static void promise21() {
        script.play("21 told: the first and the last of the shelf", """
            told(0) = 2; told(-1) = LOST+OUTSIDE; told(3) = 0; told(4) = LOST+OUTSIDE
            """);
        script.play("21 told: the first and the last rule", """
            told(10) = 1000; told(9) = LOST+OUTSIDE; told(20) = 10; told(21) = LOST+OUTSIDE
            """);
        script.play("21 told: between them", """
            told(5) = LOST+OUTSIDE; told(6) = LOST+OUTSIDE; told(7) = LOST+OUTSIDE; told(8) = LOST+OUTSIDE
            """);
        script.play("21 told: far off", """
            told(MIN) = LOST+OUTSIDE; told(MIN+9) = LOST+OUTSIDE; told(MIN+10) = LOST+OUTSIDE
            told(MIN+20) = LOST+OUTSIDE; told(MAX) = LOST+OUTSIDE
            """);
        script.play("21 told: whether there is a load", "told(3) = 0; load(); told(3) = 1; unload(); told(3) = 0");
        script.play("21 told: with a load", """
            load(); told(2) = 6; told(16) = -200; told(4) = LOST+OUTSIDE; told(21) = LOST+OUTSIDE
            """);
        script.play("21 told: a trial is no load", "trial(0, 0, 1); told(3) = 0; edge(0, 1); told(3) = 0");
    }
}
