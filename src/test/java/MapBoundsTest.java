/** The boundary cases of part 3, promises 18 to 20: one case for each that the document names. */
public final class MapBoundsTest {
    private static final Script script = new Script("MapBoundsTest");

    /** One vial that at SET 0, while it is full, is at -300 on a shelf at 120, -259 at 350, and -250 at 400. */
    private static final String ONE = "shelf(1, 1); rule(1, 39); rule(2, 0); rule(3, 1); rule(4, 10); rule(5, 0);";
    /** Nine vials on a shelf at 0: the rim is at -346 in its sixth minute, dry in its ninth; inside in the eleventh. */
    private static final String NINE = "shelf(3, 3); rule(0, 200);";
    /** The heat is so small that the cut of it lets the one inside be 9 tenths above the shelf, the rim 1. */
    private static final String INSIDE = "shelf(3, 3); rule(1, 1); rule(2, 4);";
    /** 24 vials that give 1000 each, all they have, in their first minute. */
    private static final String FLOOD = """
        shelf(4, 6); rule(1, 50); rule(2, 50); rule(3, 1); rule(4, 10); rule(5, 0); rule(8, 1)
        """;

    public static void main(String[] args) {
        promise18Refused();
        promise18();
        promise18WhatThereIsStays();
        promise19Refused();
        promise19();
        promise19WhatItIsOf();
        promise20Refused();
        promise20();
        promise20Tried();
        script.finish();
    }

    private static void promise18Refused() {
        script.play("18 trial: warmth, the least", """
            trial(-600, 0, 1) = 1; trial(-601, 0, 1) = OUTSIDE; trial(MIN, 0, 1) = OUTSIDE
            """);
        script.play("18 trial: warmth, the most", """
            trial(400, 0, 1) = 1; trial(401, 0, 1) = OUTSIDE; trial(MAX, 0, 1) = OUTSIDE
            """);
        script.play("18 trial: set, the least", """
            trial(0, 0, 1) = 1; tried(3) = 0; trial(0, -1, 1) = OUTSIDE; trial(0, MIN, 1) = OUTSIDE; tried(3) = 0
            """);
        script.play("18 trial: set, the most", """
            trial(0, 5000, 1) = 0; tried(3) = 5000; trial(0, 5001, 1) = OUTSIDE; trial(0, MAX, 1) = OUTSIDE
            """);
        script.play("18 trial: minutes, the least", """
            trial(0, 0, 1) = 1; tried(0) = 1; trial(0, 0, 0) = OUTSIDE; trial(0, 0, -1) = OUTSIDE
            trial(0, 0, MIN) = OUTSIDE; tried(0) = 1
            """);
        script.play("18 trial: minutes, the most", """
            trial(-600, 0, 100) = 1; tried(0) = 100; trial(-600, 0, 101) = OUTSIDE; trial(-600, 0, MAX) = OUTSIDE
            tried(0) = 100
            """);
        script.play("18 trial: two and three numbers wrong", """
            trial(401, 5001, 1) = OUTSIDE; trial(0, -1, 0) = OUTSIDE; trial(-601, 0, 101) = OUTSIDE
            trial(401, 5001, 101) = OUTSIDE; tried(0) = STATE
            """);
        script.play("18 trial: one that is refused is none", "trial(0, 0, 101) = OUTSIDE; tried(0) = STATE");
        script.play("18 trial: one that is refused leaves the latest", NINE + """
            rule(6, -350); trial(0, 100, 9) = 0; trial(-600, 0, 101) = OUTSIDE; tried(0) = 9; tried(1) = 0
            tried(2) = 5; tried(3) = 100; tried(4) = 1
            """);
        script.play("18 trial: no load is asked for, and none bars it", """
            trial(-400, 100, 5) = 1; load(); trial(-400, 100, 5) = 1; trial(401, 0, 1) = OUTSIDE; unload()
            trial(-400, 100, 5) = 1
            """);
    }

    private static void promise18() {
        script.play("18 trial: as warm as FALL, and a tenth above", """
            rule(6, -300); trial(-300, 5000, 1) = 1; trial(-299, 5000, 1) = 0
            """);
        script.play("18 trial: FALL at its least", """
            rule(6, -600); trial(-600, 5000, 100) = 1; trial(-599, 5000, 1) = 0
            """);
        script.play("18 trial: FALL at its most, none can", """
            rule(1, 50); rule(3, 1); rule(4, 1000); rule(6, 0); trial(400, 5000, 100) = 1; rule(6, -1)
            trial(400, 5000, 100) = 0
            """);
        script.play("18 trial: one falls in in the minute behind the last, and in the last", NINE + """
            rule(6, -350); trial(0, 100, 5) = 1; trial(0, 100, 6) = 0
            """);
        script.play("18 trial: one falls in in the minute in which its last ice goes", ONE + """
            rule(0, 1638); rule(6, -301); trial(120, 0, 1) = 0; rule(6, -300); trial(120, 0, 1) = 1
            """);
        script.play("18 trial: without ice none falls in, be the shelf as warm as it may", ONE + """
            rule(0, 100); rule(6, -250); trial(400, 0, 100) = 1
            """);
        script.play("18 trial: one of many is enough", INSIDE + """
            rule(6, -395); trial(-400, 5000, 1) = 0; rule(6, -391); trial(-400, 5000, 1) = 1
            """);
        script.play("18 trial: by shelf and rules as they are", INSIDE + """
            rule(6, -395); trial(-400, 5000, 1) = 0; shelf(2, 3); trial(-400, 5000, 1) = 1; rule(6, -400)
            trial(-400, 5000, 1) = 0
            """);
        script.play("18 trial: not by warmth and set as they are", """
            rule(6, -300); warm(400); set(0); trial(-300, 5000, 3) = 1; tried(3) = 5000; warm(-600)
            trial(-299, 5000, 3) = 0
            """);
    }

    private static void promise18WhatThereIsStays() {
        script.play("18 trial: warmth and set stay", """
            trial(400, 5000, 100); about(8) = -400; about(9) = 100; told(3) = 0
            """);
        script.play("18 trial: the load stays", NINE + """
            warm(0); load(); run(1); trial(400, 5000, 100); about(0) = 1; about(1) = 100; about(2) = 1563
            about(3) = 237; about(4) = 237; about(5) = 100; about(6) = 0; about(7) = 0; vial(0, 0) = 173
            vial(0, 1) = -424; vial(0, 2) = 27; vial(0, 3) = NONE; vial(0, 4) = NONE; vial(4, 0) = 179
            vial(4, 1) = -435; gauge(1, 0) = 100; gauge(1, 1) = 157; gauge(2, 0) = UNKNOWN; wet(0) = 9; wet(1) = 9
            firstFallen() = NONE; run(1) = 2; vial(0, 1) = -400; vial(4, 1) = -418
            """);
        script.play("18 trial: a load whose minutes are all over stays", """
            warm(-600); load(); run(500); run(500); run(500); run(500); trial(-400, 0, 100) = 1; tried(0) = 100
            about(0) = 2000; run(1) = STATE
            """);
        script.play("18 trial: who fell in and dried in the load stays", ONE + """
            rule(0, 1638); rule(6, -301); set(0); warm(120); load(); run(2); trial(-600, 0, 5) = 1; vial(0, 3) = 0
            vial(0, 4) = 0; firstFallen() = 0; about(6) = 1; about(7) = 1
            """);
    }

    private static void promise19Refused() {
        script.play("19 tried: the first and the last", """
            trial(-600, 0, 1); tried(0) = 1; tried(-1) = OUTSIDE; tried(4) = 6; tried(5) = OUTSIDE
            tried(MIN) = OUTSIDE; tried(MAX) = OUTSIDE
            """);
        script.play("19 tried: there was none", """
            tried(0) = STATE; tried(1) = STATE; tried(2) = STATE; tried(3) = STATE; tried(4) = STATE
            """);
        script.play("19 tried: outside is ahead of state", """
            tried(-1) = OUTSIDE; tried(5) = OUTSIDE; tried(MIN) = OUTSIDE; tried(MAX) = OUTSIDE; tried(0) = STATE
            """);
        script.play("19 tried: a load is no trial", "load(); run(1); tried(0) = STATE; unload(); tried(0) = STATE");
        script.play("19 tried: what was refused is no trial", """
            trial(0, 0, 0) = OUTSIDE; edge(0, 0) = LOST+OUTSIDE; edge(-1, 1) = LOST+OUTSIDE; tried(0) = STATE
            """);
    }

    private static void promise19() {
        script.play("19 tried: none fell in", """
            trial(-400, 100, 2) = 1; tried(0) = 2; tried(1) = NONE; tried(2) = NONE; tried(3) = 100; tried(4) = 6
            """);
        script.play("19 tried: all did in the first minute", """
            rule(6, -401); trial(-400, 5000, 2) = 0; tried(1) = 0; tried(2) = 0; tried(4) = 6
            """);
        script.play("19 tried: the first by minutes, then by numbers", INSIDE + """
            shelf(4, 6); rule(6, -395); trial(-400, 5000, 2) = 0; tried(1) = 7; tried(2) = 0; tried(4) = 24
            """);
        script.play("19 tried: in the last minute there can be", """
            rule(6, -419); trial(-320, 100, 99) = 1; tried(2) = NONE; trial(-320, 100, 100) = 0; tried(0) = 100
            tried(1) = 0; tried(2) = 99
            """);
        script.play("19 tried: minutes gone, as many as were told", NINE + """
            trial(0, 100, 10) = 1; tried(0) = 10; tried(4) = 1; trial(0, 100, 11) = 1; tried(0) = 11; tried(4) = 0
            """);
        script.play("19 tried: minutes gone, till no vial has ice", NINE + """
            trial(0, 100, 12) = 1; tried(0) = 11; tried(4) = 0; trial(0, 100, 100) = 1; tried(0) = 11
            """);
        script.play("19 tried: minutes gone, the first is the last", ONE + """
            rule(0, 1638); trial(120, 0, 100) = 1; tried(0) = 1; tried(4) = 0; trial(120, 0, 1) = 1; tried(0) = 1
            rule(0, 1639); trial(120, 0, 1) = 1; tried(0) = 1; tried(4) = 1; trial(120, 0, 100) = 1; tried(0) = 2
            tried(4) = 0
            """);
        script.play("19 tried: minutes gone, on behind the one in which the first fell in", NINE + """
            rule(6, -350); trial(0, 100, 8) = 0; tried(0) = 8; tried(2) = 5; trial(0, 100, 100) = 0; tried(0) = 11
            tried(2) = 5
            """);
        script.play("19 tried: the greatest pressure, that of the beginning", """
            trial(-600, 5000, 100); tried(3) = 5000
            """);
        script.play("19 tried: the greatest pressure, the least there can be", "trial(-600, 0, 100) = 1; tried(3) = 0");
        script.play("19 tried: the greatest pressure, the most and about it", FLOOD + """
            rule(7, 4101); trial(400, 100, 1); tried(3) = 19999; rule(7, 4100); trial(400, 100, 1); tried(3) = 20000
            rule(7, 4099); trial(400, 100, 1); tried(3) = 20000; tried(4) = 0
            """);
        script.play("19 tried: vials with ice, one unit is ice", ONE + """
            rule(0, 1639); trial(120, 0, 1); tried(4) = 1; trial(120, 0, 2); tried(4) = 0
            """);
    }

    private static void promise19WhatItIsOf() {
        script.play("19 tried: of the latest of two", """
            rule(6, -300); trial(-299, 5000, 3) = 0; trial(-400, 4000, 2) = 1; tried(0) = 2; tried(1) = NONE
            tried(2) = NONE; tried(3) = 4000
            """);
        script.play("19 tried: it stays behind rules, loads, warmth and set", NINE + """
            rule(6, -350); trial(0, 100, 9); rule(6, 0); rule(0, 100); warm(400); set(5000); load(); run(5); unload()
            shelf(1, 1); tried(0) = 9; tried(1) = 0; tried(2) = 5; tried(3) = 100; tried(4) = 1
            """);
    }

    private static void promise20Refused() {
        script.play("20 edge: set, the least", """
            edge(0, 1) = 400; edge(-1, 1) = LOST+OUTSIDE; edge(MIN, 1) = LOST+OUTSIDE
            """);
        script.play("20 edge: set, the most", """
            edge(5000, 1) = -200; edge(5001, 1) = LOST+OUTSIDE; edge(MAX, 1) = LOST+OUTSIDE
            """);
        script.play("20 edge: minutes, the least", """
            edge(0, 1) = 400; edge(0, 0) = LOST+OUTSIDE; edge(0, -1) = LOST+OUTSIDE; edge(0, MIN) = LOST+OUTSIDE
            """);
        script.play("20 edge: minutes, the most", """
            edge(5000, 100) = -200; edge(5000, 101) = LOST+OUTSIDE; edge(5000, MAX) = LOST+OUTSIDE
            """);
        script.play("20 edge: both numbers wrong", "edge(-1, 0) = LOST+OUTSIDE; edge(5001, 101) = LOST+OUTSIDE");
        script.play("20 edge: one that is refused leaves tried()", """
            trial(-600, 7, 3); edge(5001, 1) = LOST+OUTSIDE; edge(0, 101) = LOST+OUTSIDE; tried(0) = 3; tried(3) = 7
            """);
        script.play("20 edge: no load is asked for, and none bars it", """
            edge(5000, 5) = -200; load(); run(1); edge(5000, 5) = -200; edge(0, 101) = LOST+OUTSIDE; about(0) = 1
            about(1) = 100; about(8) = -400; about(9) = 100; unload(); edge(5000, 5) = -200
            """);
    }

    private static void promise20() {
        script.play("20 edge: the first trial fails", """
            rule(1, 1); rule(2, 0); rule(6, -592); edge(0, 1) = LOST; tried(0) = 1; tried(1) = 0; tried(2) = 0
            """);
        script.play("20 edge: the first trial does not, the second does", """
            rule(1, 1); rule(2, 0); rule(6, -591); edge(0, 1) = -600; rule(1, 10); rule(6, -600); edge(5000, 1) = -600
            rule(6, -551); edge(5000, 1) = -600; rule(6, -550); edge(5000, 1) = -550
            """);
        script.play("20 edge: the last trial fails", ONE + """
            rule(6, -251); edge(0, 1) = 350; rule(6, -259); edge(0, 1) = 350
            """);
        script.play("20 edge: the one ahead of the last fails", ONE + "rule(6, -260); edge(0, 1) = 300");
        script.play("20 edge: none fails, by a tenth", ONE + "rule(6, -250); edge(0, 1) = 400");
        script.play("20 edge: none fails, as none can", "rule(6, 0); edge(0, 100) = 400; edge(5000, 100) = 400");
        script.play("20 edge: between two warmths, and at one", """
            rule(6, -301); edge(5000, 5) = -350; rule(6, -300); edge(5000, 5) = -300; rule(6, -299)
            edge(5000, 5) = -300
            """);
        script.play("20 edge: ahead of the first that fails, though a warmer one does not", ONE + """
            rule(5, 50); rule(0, 1638); rule(6, -290); trial(-300, 0, 100) = 1; trial(-250, 0, 100) = 0
            trial(100, 0, 100) = 0; trial(150, 0, 100) = 1; trial(200, 0, 100) = 0; edge(0, 100) = -300
            """);
        script.play("20 edge: by the minutes told", ONE + """
            rule(5, 50); rule(0, 1638); rule(6, -290); edge(0, 1) = 150; edge(0, 2) = -300
            """);
    }

    private static void promise20Tried() {
        script.play("20 edge: tried() is of the trial that failed", ONE + """
            rule(5, 50); rule(0, 1638); rule(6, -290); edge(0, 100) = -300; tried(0) = 100; tried(1) = 0; tried(2) = 1
            tried(3) = 52; tried(4) = 1
            """);
        script.play("20 edge: tried() is of the one at 400, where none fails", ONE + """
            rule(0, 5000); rule(6, 0); edge(0, 1) = 400; tried(0) = 1; tried(1) = NONE; tried(2) = NONE
            tried(3) = 446; tried(4) = 1
            """);
        script.play("20 edge: tried() is of the one at 400, where that fails", ONE + """
            rule(0, 5000); rule(6, -251); edge(0, 1) = 350; tried(0) = 1; tried(1) = 0; tried(2) = 0; tried(3) = 446
            """);
        script.play("20 edge: tried() is of it, not of a trial ahead", """
            trial(-600, 7, 3); edge(5000, 2) = -200; tried(0) = 2; tried(1) = 0; tried(2) = 0; tried(3) = 5000
            tried(4) = 6
            """);
        script.play("20 edge: a trial behind it is the latest", """
            edge(5000, 2); trial(-600, 7, 3); tried(0) = 3; tried(3) = 7
            """);
    }
}
