/** The boundary cases of part 2, promises 7 to 17: one case for each that the document names. */
public final class LoadBoundsTest {
    private static final Script script = new Script("LoadBoundsTest");

    /** One vial that is at -300 while it is full: 39 times 420 by 10 is 1638, and so is vapour there. */
    private static final String ONE = """
        shelf(1, 1); rule(1, 39); rule(2, 0); rule(3, 1); rule(4, 10); rule(5, 0); set(0); warm(120)
        """;
    /** The same, with so little ice that it gives 100 in its first minute, and LEAK 20: 60 times 100 by 120 is 50. */
    private static final String ONE_OF_100 = ONE + "rule(0, 100); rule(10, 20);";
    /** Nine vials, dry at the rim in the ninth minute and inside in the eleventh; all give 237 in the first. */
    private static final String NINE = "shelf(3, 3); rule(0, 200); warm(0);";
    /** At pressure 5000 no ice below -150 gives steam, and it is as warm as the shelf. */
    private static final String STILL = "set(5000);";
    /** The same, with the heat so small that the cut of it lets the one inside be at -391, the rim at -399. */
    private static final String STILL_INSIDE = "shelf(3, 3); rule(1, 1); rule(2, 4); set(5000);";
    /** 24 vials that give 1000 each, all they have, in their first minute. */
    private static final String FLOOD = """
        shelf(4, 6); rule(1, 50); rule(2, 50); rule(3, 1); rule(4, 10); rule(5, 0); rule(8, 1); warm(400)
        """;
    private static final String TO_2000 = "run(500); run(500); run(500); run(500);";

    public static void main(String[] args) {
        promise7();
        promise8();
        promise9();
        promise10Run();
        promise10Warmth();
        promise10Ice();
        promise10FallingIn();
        promise10Pressure();
        promise11();
        promise12();
        promise13();
        promise14();
        promise15();
        promise15Together();
        promise16();
        promise17();
        script.finish();
    }

    private static void promise7() {
        script.play("7 load: of the smallest shelf", """
            shelf(1, 1); load() = 1; vial(0, 0) = 1000; vial(1, 0) = LOST+UNKNOWN
            """);
        script.play("7 load: of the largest shelf, with the most ice", """
            shelf(4, 6); rule(0, 5000); load() = 24; vial(0, 0) = 5000; vial(23, 0) = 5000; about(2) = 120000
            """);
        script.play("7 load: with the least ice", "rule(0, 100); load() = 6; vial(5, 0) = 100; about(2) = 600");
        script.play("7 load: pressure as set, the least", "set(0); load(); about(1) = 0; about(5) = 0");
        script.play("7 load: pressure as set, the most", "set(5000); load(); about(1) = 5000; about(5) = 5000");
        script.play("7 load: ahead of the first minute", """
            load(); about(0) = 0; about(3) = 0; about(4) = 0; about(6) = 0; about(7) = 0; vial(0, 1) = NONE
            vial(0, 2) = 0; vial(0, 3) = NONE; vial(0, 4) = NONE; wet(0) = 6; gauge(0, 0) = UNKNOWN
            gauge(1, 0) = UNKNOWN; end(100, 1) = NONE; firstFallen() = NONE
            """);
        script.play("7 load: there is one", """
            load() = 6; load() = STATE; told(3) = 1; run(3); load() = STATE; about(0) = 3
            """);
        script.play("7 load: there is one, though it is dry", ONE + """
            load(); run(100); about(7) = 1; load() = STATE; about(7) = 1
            """);
        script.play("7 load: there is one, though no minute can follow", "load();" + TO_2000
            + "load() = STATE; about(0) = 2000");
        script.play("7 load: behind one that went, nothing is left of it", NINE + """
            rule(6, -400); load(); set(0); run(500); about(6) = 9; about(7) = 9; unload() = 0; set(100); load() = 9
            about(0) = 0; about(1) = 100; about(2) = 1800; about(3) = 0; about(4) = 0; about(5) = 100; about(6) = 0
            about(7) = 0; vial(0, 0) = 200; vial(0, 1) = NONE; vial(0, 2) = 0; vial(0, 3) = NONE; vial(0, 4) = NONE
            vial(4, 3) = NONE; vial(4, 4) = NONE; gauge(1, 0) = UNKNOWN; wet(0) = 9; wet(1) = UNKNOWN
            end(100, 1) = NONE; firstFallen() = NONE
            """);
        script.play("7 load: behind one that was giving steam as it went", NINE + """
            load(); run(3); vial(0, 2) = 24; vial(4, 2) = 20; unload() = 9; load() = 9; vial(0, 2) = 0; vial(4, 2) = 0
            about(3) = 0; about(4) = 0
            """);
        script.play("7 load: a trial is not in its way", "trial(0, 0, 100); load() = 6; about(0) = 0");
    }

    private static void promise8() {
        script.play("8 warm: the least", "warm(-600) = -400; warm(-601) = LOST+OUTSIDE; about(8) = -600");
        script.play("8 warm: the most", "warm(400) = -400; warm(401) = LOST+OUTSIDE; about(8) = 400");
        script.play("8 warm: far off", "warm(MIN) = LOST+OUTSIDE; warm(MAX) = LOST+OUTSIDE; about(8) = -400");
        script.play("8 warm: which it was may be as a refusal of others is", """
            warm(-1) = -400; warm(-2) = -1; warm(-3) = -2; warm(-6) = -3; warm(0) = -6; about(8) = 0
            """);
        script.play("8 warm: at any time", """
            warm(-300) = -400; load(); warm(-200) = -300; warm(401) = LOST+OUTSIDE; run(1); warm(-100) = -200
            warm(-601) = LOST+OUTSIDE; unload(); warm(0) = -100
            """);
        script.play("8 warm: when no minute can follow", "load();" + TO_2000 + "warm(400) = -400; about(8) = 400");
        script.play("8 warm: it is the next minute's, not the latest one's", STILL + """
            load(); run(1); vial(0, 1) = -400; warm(-300); vial(0, 1) = -400; run(1); vial(0, 1) = -300
            """);
        script.play("8 warm: one that is refused is no minute's", STILL + """
            load(); warm(401) = LOST+OUTSIDE; run(1); vial(0, 1) = -400
            """);
    }

    private static void promise9() {
        script.play("9 set: the least", "set(0) = 100; set(-1) = OUTSIDE; about(9) = 0");
        script.play("9 set: the most", "set(5000) = 100; set(5001) = OUTSIDE; about(9) = 5000");
        script.play("9 set: far off", "set(MIN) = OUTSIDE; set(MAX) = OUTSIDE; about(9) = 100");
        script.play("9 set: at any time", """
            set(1) = 100; load(); set(2) = 1; set(5001) = OUTSIDE; run(1); set(3) = 2; set(-1) = OUTSIDE; unload()
            set(4) = 3
            """);
        script.play("9 set: when no minute can follow", "load();" + TO_2000
            + "set(0) = 100; about(9) = 0; about(1) = 100");
        script.play("9 set: pressure is at least that as a minute ends, not ahead", """
            warm(-600); load(); set(5000); about(1) = 100; about(5) = 100; run(1); about(1) = 5000; about(5) = 5000
            """);
        script.play("9 set: one that is refused is no minute's", """
            warm(-600); load(); set(5001) = OUTSIDE; run(1); about(1) = 100
            """);
    }

    private static void promise10Run() {
        script.play("10 run: the least", "load(); run(1) = 1; run(0) = OUTSIDE; run(-1) = OUTSIDE; about(0) = 1");
        script.play("10 run: the most", "load(); run(500) = 500; run(501) = OUTSIDE; about(0) = 500");
        script.play("10 run: far off", "load(); run(MIN) = OUTSIDE; run(MAX) = OUTSIDE; about(0) = 0");
        script.play("10 run: a sum that would wrap", """
            load(); run(10); run(MAX) = OUTSIDE; run(MIN) = OUTSIDE; about(0) = 10
            """);
        script.play("10 run: there is no load", """
            run(1) = STATE; run(500) = STATE; load(); run(1) = 1; unload(); run(1) = STATE
            """);
        script.play("10 run: to the last minute, in the largest steps", """
            load(); run(500) = 500; run(500) = 1000; run(500) = 1500; run(500) = 2000; run(1) = STATE; about(0) = 2000
            """);
        script.play("10 run: to the last minute by one", """
            load(); run(500); run(500); run(500); run(499) = 1999; run(2) = STATE; run(500) = STATE; about(0) = 1999
            run(1) = 2000; run(1) = STATE
            """);
        script.play("10 run: what would be one beyond, and what is just not", """
            load(); run(500); run(500); run(500); run(1) = 1501; run(500) = STATE; about(0) = 1501; run(499) = 2000
            """);
        script.play("10 run: outside is ahead of state without a load", """
            run(0) = OUTSIDE; run(501) = OUTSIDE; run(MIN) = OUTSIDE; run(MAX) = OUTSIDE; run(1) = STATE
            """);
        script.play("10 run: outside is ahead of state behind the last minute", "load();" + TO_2000
            + "run(0) = OUTSIDE; run(501) = OUTSIDE; run(MAX) = OUTSIDE; run(1) = STATE");
        script.play("10 run: a new load has its own 2000", "load();" + TO_2000
            + "unload(); load(); run(500) = 500; about(0) = 500");
        script.play("10 run: minutes of a dry load pass too", ONE + """
            load(); run(500) = 500; about(7) = 1; run(500) = 1000
            """);
    }

    private static void promise10Warmth() {
        script.play("10 warmth: steam's cost may be as much as the heat", ONE + """
            rule(0, 5000); load(); run(1); vial(0, 1) = -300; vial(0, 2) = 1638
            """);
        script.play("10 warmth: but no more", ONE + """
            rule(0, 5000); warm(119); load(); run(1); vial(0, 1) = -301; vial(0, 2) = 1623
            """);
        script.play("10 warmth: 0 at most", STILL + """
            rule(1, 50); rule(3, 1); rule(4, 1000); warm(400); load(); run(1); vial(0, 1) = 0; vial(0, 2) = 69
            """);
        script.play("10 warmth: -600 at least", """
            rule(1, 50); warm(-600); set(0); load(); run(1); vial(0, 1) = -600; vial(0, 2) = 0
            """);
        script.play("10 warmth: heat by 10 is cut towards 0 below it too", STILL_INSIDE + """
            load(); run(1); vial(0, 1) = -399; vial(4, 1) = -391
            """);
        script.play("10 warmth: at the rim the rim's heat comes on top, at its least and its most", STILL + """
            rule(1, 1); rule(2, 0); load(); run(1); vial(0, 1) = -391; unload(); rule(2, 50); load(); run(1)
            vial(0, 1) = -400
            """);
        script.play("10 warmth: the rim's heat comes to all where there are one or two rows or columns", """
            warm(0); shelf(1, 1); load(); run(1); about(4) = 27; unload(); shelf(1, 6); load(); run(1); about(4) = 162
            unload(); shelf(4, 1); load(); run(1); about(4) = 108; unload(); shelf(2, 6); load(); run(1)
            about(4) = 324; unload(); shelf(4, 2); load(); run(1); about(4) = 216; about(2) = 7784; wet(1) = 8
            """);
        script.play("10 warmth: a hundredth is dried only when it is whole", """
            shelf(1, 1); rule(3, 50); rule(4, 10); rule(5, 50); set(0); warm(0); rule(0, 1401); load(); run(1)
            vial(0, 1) = -553; vial(0, 2) = 14; run(1); vial(0, 1) = -553; vial(0, 2) = 14; unload()
            rule(0, 1400); load(); run(1); vial(0, 1) = -553; vial(0, 2) = 14; run(1); vial(0, 1) = -502
            vial(0, 2) = 13
            """);
        script.play("10 warmth: without ice it is the shelf's, which may be above 0", ONE_OF_100 + """
            load(); run(1); vial(0, 1) = -300; run(1); vial(0, 1) = 120; warm(400); run(1); vial(0, 1) = 400
            warm(-600); run(1); vial(0, 1) = -600
            """);
    }

    private static void promise10Ice() {
        script.play("10 ice: one less than the steam", ONE + """
            rule(0, 1637); load(); run(1); vial(0, 2) = 1637; vial(0, 0) = 0; vial(0, 4) = 0; about(3) = 1637
            """);
        script.play("10 ice: as much as the steam", ONE + """
            rule(0, 1638); load(); run(1); vial(0, 2) = 1638; vial(0, 0) = 0; vial(0, 4) = 0; wet(1) = 0; about(7) = 1
            """);
        script.play("10 ice: one more than the steam", ONE + """
            rule(0, 1639); load(); run(1); vial(0, 2) = 1638; vial(0, 0) = 1; vial(0, 4) = NONE; wet(1) = 1
            about(7) = 0; run(1); vial(0, 2) = 1; vial(0, 0) = 0; vial(0, 4) = 1; wet(2) = 0; about(7) = 1
            about(3) = 1639
            """);
        script.play("10 ice: one unit is left at the rim and inside", """
            shelf(3, 3); rule(0, 119); rule(1, 50); rule(2, 0); rule(3, 1); rule(4, 1000); warm(400); load(); run(1)
            vial(0, 0) = 1; vial(4, 0) = 1; wet(1) = 9; about(7) = 0; about(2) = 9; run(1); vial(4, 0) = 0; wet(2) = 0
            about(7) = 9
            """);
        script.play("10 ice: without it none is given", ONE + """
            rule(0, 1638); load(); run(2); vial(0, 2) = 0; about(4) = 0; about(3) = 1638; vial(0, 4) = 0
            """);
    }

    private static void promise10FallingIn() {
        script.play("10 falls in: not at FALL", STILL + """
            rule(6, -300); warm(-300); load(); run(1); vial(0, 1) = -300; vial(0, 3) = NONE; about(6) = 0
            """);
        script.play("10 falls in: a tenth above it", STILL + """
            rule(6, -301); warm(-300); load(); run(1); vial(0, 3) = 0; about(6) = 6; firstFallen() = 0
            """);
        script.play("10 falls in: where none is inside, none falls in there", STILL_INSIDE + """
            shelf(2, 3); rule(6, -395); load(); run(1); vial(0, 1) = -399; about(6) = 0; firstFallen() = NONE
            """);
        script.play("10 falls in: FALL at its least", STILL + """
            rule(6, -600); warm(-600); load(); run(1); about(6) = 0; warm(-599); run(1); about(6) = 6; vial(5, 3) = 1
            """);
        script.play("10 falls in: FALL at its most, none can", STILL + """
            rule(1, 50); rule(3, 1); rule(4, 1000); rule(6, 0); warm(400); load(); run(1); vial(0, 1) = 0
            about(6) = 0; unload(); rule(6, -1); load(); run(1); vial(0, 1) = 0; about(6) = 6
            """);
        script.play("10 falls in: once, and gives on as ever", NINE + """
            rule(6, -425); load(); run(1); vial(0, 1) = -424; vial(0, 3) = 0; vial(0, 2) = 27; run(1)
            vial(0, 1) = -400; vial(0, 3) = 0; vial(0, 2) = 26; vial(0, 0) = 147; about(6) = 9; vial(4, 3) = 1
            """);
        script.play("10 falls in: it stays so when it is colder", STILL + """
            rule(6, -301); warm(-300); load(); run(1); warm(-600); run(1); vial(0, 1) = -600; vial(0, 3) = 0
            about(6) = 6
            """);
        script.play("10 falls in: in the minute in which its last ice goes", ONE + """
            rule(0, 1638); rule(6, -301); load(); run(1); vial(0, 3) = 0; vial(0, 4) = 0; about(6) = 1
            """);
        script.play("10 falls in: not without ice, be the shelf as warm as it may", ONE + """
            rule(0, 1638); rule(6, -300); load(); run(1); warm(400); run(5); vial(0, 1) = 400; vial(0, 3) = NONE
            about(6) = 0; firstFallen() = NONE
            """);
    }

    private static void promise10Pressure() {
        script.play("10 pressure: all as much as the trap takes", NINE + """
            rule(7, 237); load(); about(4) = 0; set(50); run(1); about(4) = 237; about(1) = 80
            """);
        script.play("10 pressure: one beyond, less than GAS: neither more nor less", NINE + """
            rule(7, 236); load(); set(50); run(1); about(1) = 100
            """);
        script.play("10 pressure: beyond by one less than GAS, and by GAS", NINE + """
            rule(7, 233); load(); run(1); about(1) = 100; unload(); rule(7, 232); load(); run(1); about(1) = 101
            """);
        script.play("10 pressure: GAS at its least and its most", ONE + """
            rule(0, 5000); rule(7, 1); rule(8, 1); load(); run(1); about(1) = 1637; unload(); rule(8, 100); load()
            run(1); about(1) = 16
            """);
        script.play("10 pressure: the trap at its most", ONE + """
            rule(0, 5000); rule(7, 10000); load(); run(1); about(4) = 1638; about(1) = 0
            """);
        script.play("10 pressure: beyond the trap, yet at least SET", ONE + """
            rule(0, 5000); load(); set(266); run(1); about(1) = 267; unload(); set(0); load(); set(268); run(1)
            about(1) = 268; about(5) = 268
            """);
        script.play("10 pressure: one below the most", FLOOD + """
            rule(7, 4101); load(); run(1); about(4) = 24000; about(1) = 19999
            """);
        script.play("10 pressure: the most", FLOOD + """
            rule(7, 4100); load(); run(1); about(1) = 20000; about(5) = 20000
            """);
        script.play("10 pressure: it would be beyond the most", FLOOD + """
            rule(7, 4099); load(); run(1); about(1) = 20000; about(5) = 20000; gauge(1, 0) = 20000; run(1)
            about(1) = 19980; about(5) = 20000
            """);
        script.play("10 pressure: far beyond the most", FLOOD + """
            rule(7, 1); load(); run(1); about(1) = 20000; run(500); about(1) = 10000
            """);
        script.play("10 pressure: pulled to SET", """
            warm(-600); load(); set(80); run(1); about(1) = 80; run(1); about(1) = 80
            """);
        script.play("10 pressure: pulled to one above SET", """
            warm(-600); load(); set(79); run(1); about(1) = 80; run(1); about(1) = 79
            """);
        script.play("10 pressure: it would be pulled below SET", "warm(-600); load(); set(81); run(1); about(1) = 81");
        script.play("10 pressure: never below 0", """
            warm(-600); set(10); load(); set(0); run(1); about(1) = 0; run(1); about(1) = 0
            """);
        script.play("10 pressure: PULL at its least and its most", """
            warm(-600); set(5000); rule(9, 1); load(); set(0); run(1); about(1) = 4999; unload(); set(5000)
            rule(9, 500); load(); set(0); run(1); about(1) = 4500; run(9); about(1) = 0
            """);
        script.play("10 pressure: vials feel it as the minute began", NINE + """
            load(); set(5000); run(1); vial(0, 2) = 27; about(1) = 5000; warm(-200); run(1); vial(0, 1) = -200
            vial(0, 2) = 0; about(4) = 0
            """);
    }

    private static void promise11() {
        script.play("11 unload: there is none", "unload() = STATE; load(); unload() = 6; unload() = STATE");
        script.play("11 unload: all have ice", "shelf(4, 6); load(); unload() = 24");
        script.play("11 unload: some have ice", NINE + "load(); run(8); unload() = 9; load(); run(9); unload() = 1");
        script.play("11 unload: the last one has ice, and has none", NINE + """
            load(); run(10); unload() = 1; load(); run(11); unload() = 0
            """);
        script.play("11 unload: one unit is ice", ONE + "rule(0, 1639); load(); run(1); vial(0, 0) = 1; unload() = 1");
        script.play("11 unload: behind the last minute", "warm(-600); load();" + TO_2000 + "unload() = 6; told(3) = 0");
        script.play("11 unload: what was of the load is refused then", """
            load(); run(1); unload() = 6; about(0) = LOST+STATE; about(1) = LOST+STATE; about(2) = LOST+STATE
            about(3) = LOST+STATE; about(4) = LOST+STATE; about(5) = LOST+STATE; about(6) = LOST+STATE
            about(7) = LOST+STATE; vial(0, 0) = LOST+STATE; gauge(1, 0) = STATE; wet(0) = STATE; end(100, 1) = STATE
            firstFallen() = STATE; run(1) = STATE
            """);
        script.play("11 unload: warmth, set and rules stay", """
            warm(-6); set(7); rule(0, 100); load(); run(1); unload(); about(8) = -6; about(9) = 7; told(10) = 100
            """);
        script.play("11 unload: tried() stays", "trial(-300, 100, 3); load(); unload(); tried(0) = 3; tried(4) = 6");
    }

    private static void promise12() {
        script.play("12 vial: the first one and the last one", """
            load(); vial(0, 0) = 1000; vial(-1, 0) = LOST+UNKNOWN; vial(5, 0) = 1000; vial(6, 0) = LOST+UNKNOWN
            """);
        script.play("12 vial: of the smallest and the largest shelf", """
            shelf(1, 1); load(); vial(0, 0) = 1000; vial(1, 0) = LOST+UNKNOWN; unload(); shelf(4, 6); load()
            vial(23, 0) = 1000; vial(24, 0) = LOST+UNKNOWN
            """);
        script.play("12 vial: far off", "load(); vial(MIN, 0) = LOST+UNKNOWN; vial(MAX, 0) = LOST+UNKNOWN");
        script.play("12 vial: the first and the last of what is told", """
            load(); vial(0, 0) = 1000; vial(0, -1) = LOST+OUTSIDE; vial(0, 4) = NONE; vial(0, 5) = LOST+OUTSIDE
            """);
        script.play("12 vial: of what is told, far off", """
            load(); vial(0, MIN) = LOST+OUTSIDE; vial(0, MAX) = LOST+OUTSIDE
            """);
        script.play("12 vial: unknown is ahead of outside", """
            load(); vial(-1, -1) = LOST+UNKNOWN; vial(6, 5) = LOST+UNKNOWN; vial(MAX, MIN) = LOST+UNKNOWN
            """);
        script.play("12 vial: state is ahead of both", """
            vial(0, 0) = LOST+STATE; vial(6, 0) = LOST+STATE; vial(0, 5) = LOST+STATE; vial(-1, -1) = LOST+STATE
            load(); unload(); vial(6, 5) = LOST+STATE
            """);
        script.play("12 vial: what is told where there is none", """
            load(); vial(0, 1) = NONE; vial(0, 2) = 0; vial(0, 3) = NONE; vial(0, 4) = NONE; run(1); vial(0, 3) = NONE
            vial(0, 4) = NONE
            """);
        script.play("12 vial: a warmth may be as NONE is", ONE_OF_100 + """
            load(); run(1); warm(-6); run(1); vial(0, 1) = -6
            """);
        script.play("12 vial: the minute is told as it began, the first as 0", ONE_OF_100 + """
            rule(6, -301); load(); run(1); vial(0, 3) = 0; vial(0, 4) = 0; about(0) = 1; run(1); vial(0, 3) = 0
            vial(0, 4) = 0
            """);
        script.play("12 vial: the latest minute that can be", STILL + """
            rule(6, -301); load(); run(500); run(500); run(500); run(499); vial(0, 3) = NONE; warm(-300); run(1)
            vial(0, 3) = 1999; about(0) = 2000
            """);
        script.play("12 vial: the last ice in the latest minute that can be", ONE + """
            rule(0, 1638); warm(-600); load(); run(500); run(500); run(500); run(499); vial(0, 0) = 1638
            vial(0, 4) = NONE; warm(120); run(1); vial(0, 0) = 0; vial(0, 4) = 1999
            """);
    }

    private static void promise13() {
        script.play("13 about: the first and the last", """
            load(); about(0) = 0; about(-1) = LOST+OUTSIDE; about(9) = 100; about(10) = LOST+OUTSIDE
            """);
        script.play("13 about: far off", "load(); about(MIN) = LOST+OUTSIDE; about(MAX) = LOST+OUTSIDE");
        script.play("13 about: no load, but for 8 and 9", """
            about(0) = LOST+STATE; about(1) = LOST+STATE; about(2) = LOST+STATE; about(3) = LOST+STATE
            about(4) = LOST+STATE; about(5) = LOST+STATE; about(6) = LOST+STATE; about(7) = LOST+STATE
            about(8) = -400; about(9) = 100
            """);
        script.play("13 about: outside is ahead of state", """
            about(-1) = LOST+OUTSIDE; about(10) = LOST+OUTSIDE; about(MIN) = LOST+OUTSIDE; about(MAX) = LOST+OUTSIDE
            """);
        script.play("13 about: all of the latest minute, 0 if none was and if none gave", ONE_OF_100 + """
            load(); about(4) = 0; run(1); about(4) = 100; run(1); about(4) = 0; about(3) = 100
            """);
        script.play("13 about: the greatest pressure counts that of the load's beginning", """
            warm(-600); set(5000); load(); about(5) = 5000; set(0); run(1); about(1) = 4980; about(5) = 5000
            """);
        script.play("13 about: all the ice there can be, and none", FLOOD + """
            rule(0, 5000); rule(9, 500); load(); about(2) = 120000; about(7) = 0; run(500); about(2) = 0
            about(3) = 120000; about(7) = 24
            """);
        script.play("13 about: vials that fell in, one and all", STILL_INSIDE + """
            rule(6, -395); load(); about(6) = 0; run(1); about(6) = 1; warm(-390); run(1); about(6) = 9
            """);
        script.play("13 about: warmth and set at their bounds", """
            warm(-600); about(8) = -600; warm(400); about(8) = 400; set(0); about(9) = 0; set(5000); about(9) = 5000
            """);
    }

    private static void promise14() {
        script.play("14 gauge: minute, the first", """
            load(); run(3); gauge(1, 0) = 100; gauge(0, 0) = UNKNOWN; gauge(-1, 0) = UNKNOWN
            """);
        script.play("14 gauge: minute, the last that is over", """
            load(); run(3); gauge(3, 0) = 100; gauge(4, 0) = UNKNOWN; run(1); gauge(4, 0) = 100
            """);
        script.play("14 gauge: minute, none is over", """
            load(); gauge(0, 0) = UNKNOWN; gauge(1, 0) = UNKNOWN; gauge(1, 1) = UNKNOWN
            """);
        script.play("14 gauge: minute, the last there can be", "load();" + TO_2000
            + "gauge(2000, 0) = 100; gauge(2001, 0) = UNKNOWN; gauge(2000, 1) = 100");
        script.play("14 gauge: minute, far off", "load(); run(1); gauge(MIN, 0) = UNKNOWN; gauge(MAX, 0) = UNKNOWN");
        script.play("14 gauge: which", """
            load(); run(1); gauge(1, 0) = 100; gauge(1, -1) = OUTSIDE; gauge(1, 1) = 142; gauge(1, 2) = OUTSIDE
            gauge(1, MIN) = OUTSIDE; gauge(1, MAX) = OUTSIDE
            """);
        script.play("14 gauge: unknown is ahead of outside", """
            load(); run(1); gauge(0, 2) = UNKNOWN; gauge(2, -1) = UNKNOWN; gauge(MAX, MAX) = UNKNOWN
            """);
        script.play("14 gauge: state is ahead of both", """
            gauge(1, 0) = STATE; gauge(0, 0) = STATE; gauge(1, 2) = STATE; gauge(0, 2) = STATE; load(); run(1)
            unload(); gauge(1, 0) = STATE; gauge(0, -1) = STATE
            """);
        script.play("14 gauge: both show the same when none is given", """
            warm(-600); load(); run(1); about(4) = 0; gauge(1, 0) = 100; gauge(1, 1) = 100
            """);
        script.play("14 gauge: both show 0 at pressure 0, though steam is given", ONE + """
            rule(0, 5000); rule(7, 10000); load(); run(1); about(4) = 1638; gauge(1, 0) = 0; gauge(1, 1) = 0
            """);
        script.play("14 gauge: LEAK at its least and its most", ONE + """
            rule(0, 5000); rule(10, 1); load(); run(1); gauge(1, 0) = 267; gauge(1, 1) = 424; unload(); rule(10, 1000)
            load(); run(1); gauge(1, 0) = 267; gauge(1, 1) = 365
            """);
        script.play("14 gauge: other at the greatest pressure", FLOOD + """
            rule(7, 1); rule(10, 1); load(); run(1); gauge(1, 0) = 20000; gauge(1, 1) = 31800
            """);
        script.play("14 gauge: pressure as the minute ended, not as it began", """
            warm(-600); load(); set(5000); run(1); gauge(1, 0) = 5000; set(0); run(1); gauge(1, 0) = 5000
            gauge(2, 0) = 4980
            """);
        script.play("14 gauge: a minute of the load ahead is none", """
            warm(-600); load(); run(5); unload(); load(); run(1); gauge(1, 0) = 100; gauge(2, 0) = UNKNOWN
            gauge(5, 0) = UNKNOWN
            """);
    }

    private static void promise15() {
        script.play("15 end: tolerance, the least", ONE_OF_100 + """
            load(); run(1); end(0, 1) = 1; end(-1, 1) = OUTSIDE; end(MIN, 1) = OUTSIDE
            """);
        script.play("15 end: tolerance, the most", ONE_OF_100 + """
            load(); run(1); end(100, 1) = 1; end(101, 1) = OUTSIDE; end(MAX, 1) = OUTSIDE
            """);
        script.play("15 end: hold, the least", ONE_OF_100 + """
            load(); run(1); end(0, 1) = 1; end(0, 0) = OUTSIDE; end(0, -1) = OUTSIDE; end(0, MIN) = OUTSIDE
            """);
        script.play("15 end: hold, the most", ONE_OF_100 + """
            load(); run(60); end(0, 60) = 60; end(0, 61) = OUTSIDE; end(0, MAX) = OUTSIDE
            """);
        script.play("15 end: outside is ahead of state", """
            end(-1, 1) = OUTSIDE; end(101, 1) = OUTSIDE; end(0, 0) = OUTSIDE; end(0, 61) = OUTSIDE; end(0, 1) = STATE
            end(100, 60) = STATE
            """);
        script.play("15 end: no load any more", ONE_OF_100 + """
            load(); run(1); end(0, 1) = 1; unload(); end(0, 1) = STATE
            """);
        script.play("15 end: not yet, as no minute is over", "load(); end(0, 1) = NONE; end(100, 60) = NONE");
        script.play("15 end: apart by the tolerance, at its most", ONE_OF_100 + """
            set(200); load(); run(1); gauge(1, 0) = 200; gauge(1, 1) = 300; end(100, 1) = 1; end(99, 1) = NONE
            """);
        script.play("15 end: apart by one more than the most", ONE_OF_100 + """
            set(202); load(); run(1); gauge(1, 1) = 303; end(100, 1) = NONE; run(1); end(100, 1) = 2
            """);
        script.play("15 end: apart by one, and by none", ONE_OF_100 + """
            set(2); load(); run(1); gauge(1, 0) = 2; gauge(1, 1) = 3; end(1, 1) = 1; end(0, 1) = NONE; run(1)
            end(0, 1) = 2; end(1, 1) = 1
            """);
    }

    private static void promise15Together() {
        script.play("15 end: one minute less than hold, and as many", ONE_OF_100 + """
            load(); run(59); end(0, 59) = 59; end(0, 60) = NONE; run(1); end(0, 60) = 60; end(0, 59) = 59
            """);
        script.play("15 end: the first that it fits, also when more are over", ONE_OF_100 + """
            load(); run(500); end(0, 1) = 1; end(0, 2) = 2; end(0, 60) = 60
            """);
        script.play("15 end: the minutes are together, one apart begins anew", """
            warm(-600); load(); run(2); warm(0); run(1); warm(-600); run(2); end(0, 2) = 2; end(0, 3) = NONE; run(1)
            end(0, 3) = 6; end(0, 4) = NONE; run(1); end(0, 4) = 7
            """);
        script.play("15 end: it is of the minutes' ends, not of the gauges now", """
            warm(-600); load(); run(1); warm(0); run(3); end(0, 1) = 1; end(0, 2) = NONE
            """);
        script.play("15 end: a load has nothing of the minutes of the one ahead", """
            warm(-600); load(); run(5); end(0, 3) = 3; unload(); load(); end(0, 1) = NONE; run(2); end(0, 2) = 2
            end(0, 3) = NONE
            """);
        script.play("15 end: in the last minute there can be", """
            rule(0, 5000); rule(3, 1); rule(4, 1000); rule(5, 0); warm(-450); load(); run(500); run(500); run(500)
            run(499); about(4) = 6; end(22, 1) = 1; end(21, 1) = NONE; warm(-600); run(1); end(21, 1) = 2000
            end(0, 1) = 2000; end(0, 2) = NONE
            """);
    }

    private static void promise16() {
        script.play("16 wet: minute, the first is 0", NINE + """
            load(); wet(0) = 9; wet(-1) = UNKNOWN; wet(MIN) = UNKNOWN
            """);
        script.play("16 wet: minute, the last that is over", NINE + """
            load(); wet(1) = UNKNOWN; run(2); wet(2) = 9; wet(3) = UNKNOWN; wet(MAX) = UNKNOWN
            """);
        script.play("16 wet: minute, the last there can be", ONE + "load();" + TO_2000
            + "wet(0) = 1; wet(2000) = 0; wet(2001) = UNKNOWN");
        script.play("16 wet: state is ahead of unknown", """
            wet(0) = STATE; wet(-1) = STATE; wet(MAX) = STATE; load(); unload(); wet(0) = STATE; wet(-1) = STATE
            """);
        script.play("16 wet: all, one and none", NINE + """
            load(); run(12); wet(8) = 9; wet(9) = 1; wet(10) = 1; wet(11) = 0; wet(12) = 0
            """);
        script.play("16 wet: of the smallest and the largest shelf", """
            shelf(1, 1); load(); wet(0) = 1; unload(); shelf(4, 6); load(); wet(0) = 24
            """);
        script.play("16 wet: one unit is ice", ONE + "rule(0, 1639); load(); run(2); wet(1) = 1; wet(2) = 0");
        script.play("16 wet: a minute of the load ahead is none", """
            load(); run(5); unload(); load(); wet(5) = UNKNOWN; wet(1) = UNKNOWN; wet(0) = 6
            """);
    }

    private static void promise17() {
        script.play("17 firstFallen: no load", """
            firstFallen() = STATE; load(); firstFallen() = NONE; unload(); firstFallen() = STATE
            """);
        script.play("17 firstFallen: none, no minute being over or none too warm", """
            load(); firstFallen() = NONE; run(5); firstFallen() = NONE
            """);
        script.play("17 firstFallen: the first number, when all do in one minute", STILL + """
            shelf(4, 6); rule(6, -401); load(); run(1); about(6) = 24; firstFallen() = 0
            """);
        script.play("17 firstFallen: the only one inside", STILL_INSIDE + """
            rule(6, -395); load(); run(1); firstFallen() = 4; about(6) = 1
            """);
        script.play("17 firstFallen: the first number of those inside", STILL_INSIDE + """
            shelf(4, 6); rule(6, -395); load(); run(1); firstFallen() = 7; about(6) = 8
            """);
        script.play("17 firstFallen: by minutes ahead of numbers", STILL_INSIDE + """
            rule(6, -395); load(); run(1); warm(-390); run(1); vial(0, 3) = 1; vial(4, 3) = 0; firstFallen() = 4
            """);
        script.play("17 firstFallen: the rim ahead of those inside", NINE + """
            rule(6, -425); load(); run(1); firstFallen() = 0; vial(4, 3) = NONE; run(1); vial(4, 3) = 1
            firstFallen() = 0
            """);
        script.play("17 firstFallen: a new load has none", STILL + """
            rule(6, -401); load(); run(1); firstFallen() = 0; unload(); load(); firstFallen() = NONE
            """);
    }
}
