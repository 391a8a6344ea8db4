/** Promise by promise, answers worked out by hand from the document: ordinary inputs, edges, wrong inputs. */
public final class PromisesTest {
    /** HOUR by HOUR: TURNS 4 3 2 1 0 0; HOLDS 0 4 4 3 1 0; PASS - 0 3 3 3 1; into the sea 0 0 3 6 9 10. */
    private static final String SMALL =
            "turns 4;reach a bank 50 gate 3;mill m at a needs 3;winder w strength 6 wage 4;";
    private static final String THREE = "turns 10;slack 3;rain 2;odds 5;"
            + "reach up bank 20 gate 5 holds 8;reach mid bank 10 gate 4 holds 3;reach low bank 12 gate 99;"
            + "mill oak at up needs 5;mill elm at up needs 6;mill ash at low needs 3;"
            + "winder ann strength 8 wage 6;winder bob strength 12 wage 9;";
    private static final int LEAST = Integer.MIN_VALUE;
    private static final int MOST = Integer.MAX_VALUE;
    private static final Check CHECK = new Check();

    public static void main(String[] args) {
        newObject();
        statusAndFraction();
        trays();
        pours();
        tape();
        riversTaken();
        weeksTaken();
        faultsKept();
        whatIs();
        copiesStored();
        hours();
        hoursUpward();
        hoursWithoutReaches();
        slackAndOil();
        winds();
        gatesAndRain();
        brings();
        rulesBuildsTrains();
        ahead();
        whenFirst();
        laws();
        enough();
        bestGates();
        hires();
        whoWound();
        games();
        fractions();
        wets();
        lives();
        livesByDraws();
        livesLimits();
        means();
        marks();
        lastCall();
        CHECK.end("PromisesTest");
    }

    private static void newObject() {
        ClockRiver x = new ClockRiver();
        CHECK.due("new: NONE", ClockRiver.NONE, -1);
        CHECK.due("new: status()", x.status(), 0);
        CHECK.due("new: top()", x.top(), 0);
        CHECK.due("new: bottom()", x.bottom(), 1);
        int[] figures = {0, 0, 0, 1, 5, 4, 0, 0, 0, 0, 0, 0, 0};
        for (int what = 0; what < figures.length; what++) {
            CHECK.taken("new: many(" + what + ")", x, x.many(what), figures[what]);
        }
        CHECK.taken("new: turnsLeft()", x, x.turnsLeft(), 0);
        for (int what = 0; what < 6; what++) {
            CHECK.taken("new: water(" + what + ")", x, x.water(what), 0);
        }
        for (int tray = 0; tray < 4; tray++) {
            CHECK.refused("new: read(" + tray + ", 0)", x, x.read(tray, 0), 3);
        }
        CHECK.refused("new: live(0)", x, x.live(0), 8);
        CHECK.refused("new: back()", x, x.back(), 8);
        CHECK.due("new: fault(0)", x.fault(0), -1);
        CHECK.due("new: fault(1)", x.fault(1), -1);
        CHECK.refused("new: river(1)", x, x.river(1), 5);
        CHECK.taken("new: river(0)", x, x.river(0), 0);
    }

    private static void statusAndFraction() {
        ClockRiver x = Check.riverOf(SMALL);
        CHECK.refused("status of many(13)", x, x.many(13), 5);
        CHECK.due("status() has none", x.status(), 5);
        x.fault(0);
        x.top();
        x.bottom();
        x.feed(0, 0, 0, 0, 0);
        CHECK.due("fault(), top(), bottom(), feed() have no STATUS", x.status(), 5);
        CHECK.fraction("price(0)", x, x.price(0), 2, 3);
        CHECK.refused("price(1)", x, x.price(1), 2);
        CHECK.due("top() stays", x.top(), 2);
        CHECK.due("bottom() stays", x.bottom(), 3);
    }

    private static void trays() {
        ClockRiver x = new ClockRiver();
        CHECK.refused("tray(-1, 0, 1)", x, x.tray(-1, 0, 1), 1);
        CHECK.refused("tray(4, 0, 1)", x, x.tray(4, 0, 1), 1);
        CHECK.refused("tray(0, -1, 1)", x, x.tray(0, -1, 1), 1);
        CHECK.refused("tray(0, 4, -1)", x, x.tray(0, 4, -1), 1);
        CHECK.refused("tray(0, 0, 61)", x, x.tray(0, 0, 61), 5);
        CHECK.refused("tray(0, 0, -1)", x, x.tray(0, 0, -1), 6);
        CHECK.refused("tray(0, 0, LEAST)", x, x.tray(0, 0, LEAST), 6);
        CHECK.refused("read of a TRAY never made", x, x.read(0, 0), 3);
        CHECK.refused("write to a TRAY never made", x, x.write(0, 0, 1), 3);
        long[] cut = {-1, -1, 0x7fffffffL, 0x123456787fffffffL};
        long[] given = {0xffL, 0xffffL, 0x123456787fffffffL, 0x123456787fffffffL};
        for (int sort = 0; sort < 4; sort++) {
            CHECK.taken("tray(" + sort + ", sort, 60)", x, x.tray(sort, sort, 60));
            CHECK.taken("read, all 0", x, x.read(sort, 59), 0);
            CHECK.taken("write", x, x.write(sort, 59, given[sort]));
            CHECK.taken("read of sort " + sort, x, x.read(sort, 59), cut[sort]);
            CHECK.refused("read(" + sort + ", 60)", x, x.read(sort, 60), 4);
            CHECK.refused("read(" + sort + ", -1)", x, x.read(sort, -1), 4);
            CHECK.refused("write(" + sort + ", 60)", x, x.write(sort, 60, 1), 4);
        }
        x.write(0, 0, 128);
        CHECK.taken("8 bits with sign", x, x.read(0, 0), -128);
        x.write(1, 0, 32768);
        CHECK.taken("16 bits with sign", x, x.read(1, 0), -32768);
        x.write(2, 0, 1L << 31);
        CHECK.taken("32 bits with sign", x, x.read(2, 0), LEAST);
        CHECK.refused("read(4, 0)", x, x.read(4, 0), 1);
        CHECK.refused("write(-1, 0)", x, x.write(-1, 0, 1), 1);
        CHECK.taken("a TRAY made anew", x, x.tray(0, 2, 3));
        CHECK.taken("is all 0", x, x.read(0, 0), 0);
        CHECK.refused("and as long as told", x, x.read(0, 3), 4);
        CHECK.taken("of no numbers", x, x.tray(0, 2, 0));
        CHECK.refused("has no place", x, x.read(0, 0), 4);
    }

    private static void pours() {
        ClockRiver x = new ClockRiver();
        x.tray(0, 2, 5);
        x.tray(1, 2, 4);
        x.tray(2, 3, 4);
        for (int i = 0; i < 5; i++) {
            x.write(0, i, i + 1);
        }
        CHECK.taken("pour(0, 0, 0, 1, 4): as they were", x, x.pour(0, 0, 0, 1, 4));
        int[] due = {1, 1, 2, 3, 4};
        for (int i = 0; i < 5; i++) {
            CHECK.taken("poured", x, x.read(0, i), due[i]);
        }
        CHECK.taken("pour(0, 3, 1, 2, 2)", x, x.pour(0, 3, 1, 2, 2));
        CHECK.taken("poured", x, x.read(1, 1), 0);
        CHECK.taken("poured", x, x.read(1, 2), 3);
        CHECK.taken("poured", x, x.read(1, 3), 4);
        CHECK.refused("pour(4, ..)", x, x.pour(4, 0, 3, 0, -1), 1);
        CHECK.refused("pour(.., -1, ..)", x, x.pour(3, 0, -1, 0, -1), 1);
        CHECK.refused("pour to one that is MISSING", x, x.pour(2, 0, 3, 0, -1), 3);
        CHECK.refused("pour from one that is MISSING", x, x.pour(3, 0, 2, 0, -1), 3);
        CHECK.refused("pour, unlike sorts", x, x.pour(0, 9, 2, 9, -1), 11);
        CHECK.refused("pour, below 0", x, x.pour(0, 9, 1, 9, -1), 6);
        CHECK.refused("pour, too few", x, x.pour(0, 2, 1, 0, 4), 4);
        CHECK.refused("pour, too few to come to", x, x.pour(0, 0, 1, 1, 4), 4);
        CHECK.refused("pour, place below 0", x, x.pour(0, -1, 1, 0, 1), 4);
        CHECK.refused("pour, place below 0", x, x.pour(0, 0, 1, -1, 1), 4);
        CHECK.refused("pour, many", x, x.pour(0, 1, 1, 1, MOST), 4);
        CHECK.refused("pour, far", x, x.pour(0, MOST, 1, 0, 1), 4);
        CHECK.taken("pour of none, behind the last", x, x.pour(0, 5, 1, 4, 0));
        CHECK.refused("pour of none, beyond", x, x.pour(0, 6, 1, 4, 0), 4);
        CHECK.taken("nothing else changed", x, x.read(1, 0), 0);
    }

    private static void tape() {
        ClockRiver x = new ClockRiver();
        for (int i = 1; i <= 45; i++) {
            CHECK.due("feed, " + i, x.feed(0x20202020, 0x20202020, 0x20202020, 0x20202020, 0x20202020), 20 * i);
        }
        CHECK.due("feed beyond 900", x.feed(0, 0, 0, 0, 0), -1);
        CHECK.refused("river(901)", x, x.river(901), 5);
        CHECK.refused("weeks(301)", x, x.weeks(301), 5);
        CHECK.taken("the tape stays with 5, blanks are a RIVER", x, x.river(900), 0);
        CHECK.due("the tape is empty then", x.feed(0x41000000, 0, 0, 0, 0x420a200a), 20);
        CHECK.refused("the highest of an int is first", x, x.river(20), 10);
        CHECK.due("its place", x.fault(1), 0);
        CHECK.due("the tape is empty with 10, too", x.feed(0x20200a20, 0x20200a7b, 0, 0, 0), 20);
        CHECK.refused("weeks(20)", x, x.weeks(20), 10);
        CHECK.due("the lowest of an int is last", x.fault(1), 7);
        CHECK.due("the kind", x.fault(0), 1);
        CHECK.due("the tape is empty again", x.feed(0, 0, 0, 0, 0), 20);
        CHECK.refused("river(-1)", x, x.river(-1), 5);
        CHECK.refused("weeks(-1)", x, x.weeks(-1), 5);
        CHECK.refused("weeks(21)", x, x.weeks(21), 5);
        CHECK.taken("weeks(0): no STEPS", x, x.weeks(0), 0);
        CHECK.due("900 TOKENS are fed", Check.feed(x, ";".repeat(900)), 900);
        CHECK.refused("900 TOKENS", x, x.river(900), 10);
        CHECK.due("900 TOKENS, place", x.fault(1), 0);
        Check.feed(x, "turns 1;" + "x".repeat(892));
        CHECK.refused("a WORD of 892 letters", x, x.river(900), 10);
        CHECK.due("a WORD of 892 letters, place", x.fault(1), 8);
    }

    private static void riversTaken() {
        ClockRiver x = Check.riverOf(SMALL);
        x.hour(30);
        x.rain(true);
        x.oil();
        x.wind(0, false);
        Check.weeks(x, "oil;");
        CHECK.refused("a RIVER with a FAULT", x, Check.river(x, "turns 3;reach a bank 3 gate 100;"), 10);
        CHECK.taken("the old one stays", x, x.many(6), 30);
        CHECK.taken("so do its WEEKS", x, x.mean(0, 1));
        CHECK.taken("a RIVER of blanks and none", x, Check.river(x, "reach a bank 0 gate 0 holds 0;turns\n7;"), 1);
        int[] figures = {1, 0, 0, 1, 5, 4, 0, 0, 0, 0, 0, 0, 0};
        for (int what = 0; what < figures.length; what++) {
            CHECK.taken("new RIVER: many(" + what + ")", x, x.many(what), figures[what]);
        }
        CHECK.taken("new RIVER: turnsLeft()", x, x.turnsLeft(), 7);
        CHECK.taken("new RIVER: water(0)", x, x.water(0), 0);
        CHECK.taken("new RIVER: water(4)", x, x.water(4), 0);
        CHECK.refused("new RIVER: live(0)", x, x.live(0), 8);
        CHECK.taken("all ends at once", x, Check.river(x, "turns 60;slack 9;rain 99;odds 16;"
                + "reach abcdefgh bank 999 gate 99 holds 999;mill m at abcdefgh needs 99;winder w strength 40 wage 99;"
                + "winder v strength 1 wage 0;winder u strength 2;"), 1);
        CHECK.taken("a wage without", x, x.winder(2, 1), 1);
        CHECK.taken("a wage of 0", x, x.winder(1, 1), 0);
        CHECK.taken("no blanks but where a TOKEN would go on", x, Check.river(x,
                "turns60;reach a bank5gate4holds3;mill b at a needs2;"), 1);
        CHECK.taken("it is so", x, x.reach(0, 2), 3);
    }

    private static void weeksTaken() {
        ClockRiver x = Check.riverOf(THREE);
        CHECK.taken("STEPS are counted, ends are not", x, Check.weeks(x, "hour 24;wind bob back;wind ann;oil;"
                + "gate low 0;rain;dry;any;when stored mid<999;loop 99;when raining;end;end;end;stop;"), 12);
        CHECK.refused("WEEKS with a FAULT", x, Check.weeks(x, "hour 1;wind up;"), 10);
        CHECK.taken("the old ones stay", x, x.live(0) > 4 ? 1 : 0, 1);
        CHECK.taken("new ones", x, Check.weeks(x, "oil;"), 1);
        CHECK.taken("in their place", x, x.live(0), 1);
        CHECK.taken("thirty", x, Check.weeks(x, "oil;".repeat(30)), 30);
    }

    private static void faultsKept() {
        ClockRiver x = new ClockRiver();
        Check.river(x, "turns 61;");
        CHECK.due("fault(0)", x.fault(0), 4);
        CHECK.due("fault(1)", x.fault(1), 6);
        CHECK.due("fault(2)", x.fault(2), -1);
        CHECK.due("fault(-1)", x.fault(-1), -1);
        x.river(1);
        CHECK.due("STATUS 5 leaves it", x.fault(0), 4);
        x.weeks(0);
        CHECK.due("without one", x.fault(0), 0);
        CHECK.due("its place", x.fault(1), -1);
    }

    private static void whatIs() {
        ClockRiver x = Check.riverOf(THREE);
        int[] figures = {3, 3, 2, 3, 2, 5, 0, 0, 0, 0, 11, 0, 0};
        for (int what = 0; what < figures.length; what++) {
            CHECK.taken("many(" + what + ")", x, x.many(what), figures[what]);
        }
        CHECK.refused("many(-1)", x, x.many(-1), 5);
        CHECK.refused("many(13)", x, x.many(13), 5);
        CHECK.refused("water(-1)", x, x.water(-1), 5);
        CHECK.refused("water(6)", x, x.water(6), 5);
        int[] up = {20, 5, 8, 5, 2};
        int[] mid = {10, 4, 3, 3, 0};
        for (int what = 0; what < 5; what++) {
            CHECK.taken("reach(0, " + what + ")", x, x.reach(0, what), up[what]);
            CHECK.taken("reach(1, " + what + ")", x, x.reach(1, what), mid[what]);
        }
        CHECK.refused("reach(3, 9)", x, x.reach(3, 9), 2);
        CHECK.refused("reach(-1, 0)", x, x.reach(-1, 0), 2);
        CHECK.refused("reach(0, 5)", x, x.reach(0, 5), 5);
        CHECK.refused("reach(0, -1)", x, x.reach(0, -1), 5);
        CHECK.taken("mill(2, 0)", x, x.mill(2, 0), 2);
        CHECK.taken("mill(2, 1)", x, x.mill(2, 1), 3);
        CHECK.taken("mill(2, 2)", x, x.mill(2, 2), 0);
        CHECK.refused("mill(3, 9)", x, x.mill(3, 9), 2);
        CHECK.refused("mill(0, 3)", x, x.mill(0, 3), 5);
        CHECK.refused("mill(0, -1)", x, x.mill(0, -1), 5);
        x.wind(1, false);
        x.wind(1, true);
        int[] bob = {12, 9, 2, 18};
        for (int what = 0; what < 4; what++) {
            CHECK.taken("winder(1, " + what + ")", x, x.winder(1, what), bob[what]);
        }
        x.wind(0, true);
        CHECK.taken("WAGES that all had", x, x.many(11), 24);
        CHECK.refused("winder(2, 9)", x, x.winder(2, 9), 2);
        CHECK.refused("winder(0, 4)", x, x.winder(0, 4), 5);
        CHECK.refused("winder(0, -1)", x, x.winder(0, -1), 5);
        x.hour(50);
        CHECK.taken("the HOUR", x, x.many(6), 50);
        CHECK.taken("the DAY", x, x.many(7), 2);
    }

    private static void copiesStored() {
        ClockRiver x = Check.riverOf("reach a bank 999 gate 0 holds 300;reach b bank 9 gate 0 holds 9;");
        CHECK.refused("copyStored(4)", x, x.copyStored(4), 1);
        CHECK.refused("copyStored(0), MISSING", x, x.copyStored(0), 3);
        x.tray(0, 0, 1);
        CHECK.refused("copyStored(0), too few", x, x.copyStored(0), 4);
        x.tray(0, 0, 3);
        x.write(0, 2, 7);
        CHECK.taken("copyStored(0)", x, x.copyStored(0), 2);
        CHECK.taken("300 cut to 8 bits", x, x.read(0, 0), 44);
        CHECK.taken("the second", x, x.read(0, 1), 9);
        CHECK.taken("the rest stays", x, x.read(0, 2), 7);
    }

    private static void hours() {
        ClockRiver x = Check.riverOf(SMALL);
        CHECK.refused("hour(0)", x, x.hour(0), 5);
        CHECK.refused("hour(169)", x, x.hour(169), 5);
        CHECK.refused("hour(MOST)", x, x.hour(MOST), 5);
        int[] ground = {0, 1, 1, 1, 0};
        int[] holds = {4, 4, 3, 1, 0};
        int[] turns = {3, 2, 1, 0, 0};
        int[] sea = {0, 3, 6, 9, 10};
        for (int i = 0; i < 5; i++) {
            CHECK.taken("hour(1) " + i, x, x.hour(1), ground[i]);
            CHECK.taken("HOLDS", x, x.reach(0, 2), holds[i]);
            CHECK.taken("TURNS", x, x.turnsLeft(), turns[i]);
            CHECK.taken("into the sea", x, x.water(0), sea[i]);
        }
        CHECK.taken("from the SPRING", x, x.water(4), 10);
        CHECK.taken("the MILL", x, x.mill(0, 2), 3);
        CHECK.taken("GROUND in all", x, x.many(12), 3);
        x = Check.riverOf(THREE);
        x.rain(true);
        // up 8-5+10+2=15, mid 3-3+5+2=7, low 0-0+3+2=5; oak grinds
        CHECK.taken("all REACHES at once", x, x.hour(1), 1);
        // up 15-5+7+2=19, mid 7-4+5+2=10, low 5-5+4+2=6; oak, ash grind
        CHECK.taken("the second", x, x.hour(1), 2);
        CHECK.taken("up", x, x.reach(0, 2), 19);
        CHECK.taken("mid, to the BANK", x, x.reach(1, 2), 10);
        CHECK.taken("low", x, x.reach(2, 2), 6);
        CHECK.taken("not above a BANK", x, x.water(3), 0);
        // up 19-5+4+2=20, mid 10-4+5+2=13 of 10, low 6-6+4+2=6
        CHECK.taken("the third", x, x.hour(1), 2);
        CHECK.taken("above the BANK it is gone", x, x.reach(1, 2), 10);
        CHECK.taken("FLOODED", x, x.water(3), 3);
        CHECK.taken("by RAIN", x, x.water(5), 18);
        CHECK.taken("from the SPRING", x, x.water(4), 21);
        CHECK.taken("into the sea", x, x.water(0), 11);
        for (int i = 0; i < 59; i++) {
            x.hour(168);
        }
        CHECK.taken("HOUR", x, x.many(6), 9915);
        CHECK.refused("beyond 9,999", x, x.hour(85), 7);
        CHECK.taken("to 9,999", x, x.hour(84) > 0 ? 1 : 0, 1);
        CHECK.taken("HOUR 9,999", x, x.many(6), 9999);
        CHECK.refused("no more", x, x.hour(1), 7);
        CHECK.taken("ahead that does not matter", x, x.groundIn(2, 2), 2);
    }

    private static void hoursUpward() {
        ClockRiver x = Check.riverOf(THREE);
        x.wind(0, true);
        CHECK.taken("TURNS 2 are no backward", x, x.turnsLeft(), 2);
        CHECK.taken("wind(1, true)", x, x.wind(1, true), -10);
        // up 8-5+3=6 (5 are LOST), mid 3-3+0=0, low 0-0+10=10; oak grinds
        CHECK.taken("hour(1)", x, x.hour(1), 1);
        CHECK.taken("up", x, x.reach(0, 2), 6);
        CHECK.taken("mid", x, x.reach(1, 2), 0);
        CHECK.taken("low", x, x.reach(2, 2), 10);
        CHECK.taken("TURNS", x, x.turnsLeft(), -7);
        CHECK.taken("came from the sea", x, x.water(1), 10);
        CHECK.taken("LOST", x, x.water(2), 5);
        CHECK.taken("nothing from the SPRING", x, x.water(4), 0);
        CHECK.taken("nothing into the sea", x, x.water(0), 0);
        // up 6-5+0=1, mid 0+10=10, low 10-10+7=7; oak, ash
        CHECK.taken("hour(1)", x, x.hour(1), 2);
        CHECK.taken("mid", x, x.reach(1, 2), 10);
        CHECK.taken("turnsIn(1): -1", x, x.turnsIn(1), -1);
        x.hour(1);
        CHECK.taken("turnsLeft(): -1", x, x.turnsLeft(), -1);
        x.hour(1);
        CHECK.taken("not beyond 0", x, x.turnsLeft(), 0);
    }

    private static void hoursWithoutReaches() {
        ClockRiver x = Check.riverOf("turns 5;slack 2;winder w strength 10;");
        x.rain(true);
        CHECK.taken("hour(2)", x, x.hour(2), 0);
        CHECK.taken("from the SPRING", x, x.water(4), 8);
        CHECK.taken("into the sea", x, x.water(0), 8);
        CHECK.taken("no RAIN", x, x.water(5), 0);
        CHECK.taken("backward", x, x.wind(0, true), -9);
        x.hour(1);
        CHECK.taken("from the sea", x, x.water(1), 9);
        CHECK.taken("out at the SPRING", x, x.water(2), 9);
        CHECK.taken("and no more", x, x.water(0) + x.water(4), 16);
    }

    private static void slackAndOil() {
        ClockRiver x = Check.riverOf("turns 60;slack 5;winder w strength 40;");
        CHECK.taken("oil()", x, x.oil(), 12);
        x.hour(1);
        CHECK.taken("half of SLACK, rounded up", x, x.turnsLeft(), 57);
        CHECK.taken("an HOUR less", x, x.many(9), 11);
        CHECK.taken("oil() again", x, x.oil(), 12);
        x.hour(12);
        CHECK.taken("twelve HOURS", x, x.turnsLeft(), 21);
        CHECK.taken("OIL is gone", x, x.many(9), 0);
        x.hour(1);
        CHECK.taken("SLACK again", x, x.turnsLeft(), 16);
        x.hour(4);
        CHECK.taken("not beyond 0", x, x.turnsLeft(), 0);
        CHECK.taken("no OIL below 0", x, x.many(9), 0);
        x.wind(0, true);
        x.oil();
        x.hour(1);
        CHECK.taken("upward, too", x, x.turnsLeft(), -37);
    }

    private static void winds() {
        ClockRiver x = Check.riverOf("winder w strength 40 wage 3;winder v strength 1;");
        CHECK.taken("wind(0, false)", x, x.wind(0, false), 40);
        CHECK.taken("60 at most", x, x.wind(0, false), 60);
        CHECK.taken("he has his WAGE still", x, x.winder(0, 3), 6);
        CHECK.taken("wind(0, true)", x, x.wind(0, true), 20);
        x.wind(0, true);
        x.wind(0, true);
        CHECK.taken("-60 at most", x, x.turnsLeft(), -60);
        CHECK.refused("wind(2, false)", x, x.wind(2, false), 2);
        CHECK.refused("wind(-1, false)", x, x.wind(-1, false), 2);
        x = Check.riverOf("winder v strength 1;");
        CHECK.taken("wind to -1", x, x.wind(0, true), -1);
        x.hour(143);
        CHECK.taken("the last HOUR of DAY 5", x, x.wind(0, false), 1);
        x.hour(1);
        CHECK.refused("DAY 6", x, x.wind(0, false), 9);
        CHECK.refused("no such WINDER comes ahead of that", x, x.wind(1, false), 2);
        x.hour(24);
        CHECK.taken("DAY 7", x, x.wind(0, false), 1);
        CHECK.taken("wound so often", x, x.winder(0, 2), 3);
        x.hour(168);
        CHECK.taken("DAY 14", x, x.wind(0, false), 1);
        x.hour(167);
        CHECK.refused("DAY 20", x, x.wind(0, false), 9);
    }

    private static void gatesAndRain() {
        ClockRiver x = Check.riverOf(SMALL);
        CHECK.taken("gate(0, 0)", x, x.gate(0, 0), 3);
        CHECK.taken("gate(0, 99)", x, x.gate(0, 99), 0);
        CHECK.refused("gate(0, 99)", x, x.gate(0, 99), 9);
        CHECK.refused("gate(0, 100)", x, x.gate(0, 100), 5);
        CHECK.refused("gate(0, -1)", x, x.gate(0, -1), 5);
        CHECK.refused("gate(1, 100)", x, x.gate(1, 100), 2);
        CHECK.taken("GATE", x, x.reach(0, 1), 99);
        CHECK.refused("rain(false)", x, x.rain(false), 9);
        CHECK.taken("rain(true)", x, x.rain(true));
        CHECK.taken("it rains", x, x.many(8), 1);
        CHECK.refused("rain(true)", x, x.rain(true), 9);
        x.hour(1);
        CHECK.taken("RAIN 5", x, x.reach(0, 2), 9);
        CHECK.taken("rain(false)", x, x.rain(false));
        CHECK.taken("it is dry", x, x.many(8), 0);
    }

    private static void brings() {
        ClockRiver x = Check.riverOf(SMALL);
        CHECK.taken("bring(0, 50)", x, x.bring(0, 50), 50);
        CHECK.taken("nothing is FLOODED", x, x.water(3), 0);
        CHECK.taken("bring(0, 999)", x, x.bring(0, 999), 50);
        CHECK.taken("FLOODED", x, x.water(3), 999);
        CHECK.refused("bring(0, -51)", x, x.bring(0, -51), 9);
        CHECK.taken("bring(0, -50)", x, x.bring(0, -50), 0);
        CHECK.refused("bring(0, -1)", x, x.bring(0, -1), 9);
        CHECK.refused("bring(0, 0)", x, x.bring(0, 0), 5);
        CHECK.refused("bring(0, 1000)", x, x.bring(0, 1000), 5);
        CHECK.refused("bring(0, -1000)", x, x.bring(0, -1000), 5);
        CHECK.refused("bring(0, LEAST)", x, x.bring(0, LEAST), 5);
        CHECK.refused("bring(1, 0)", x, x.bring(1, 0), 2);
        CHECK.taken("what is brought is not told", x, x.water(0) + x.water(1) + x.water(4) + x.water(5), 0);
    }

    private static void rulesBuildsTrains() {
        ClockRiver x = Check.riverOf(SMALL);
        int[] most = {9, 99, 16};
        for (int what = 3; what <= 5; what++) {
            CHECK.taken("rule(" + what + ", most)", x, x.rule(what, most[what - 3]));
            CHECK.taken("many(" + what + ")", x, x.many(what), most[what - 3]);
            CHECK.refused("rule, above", x, x.rule(what, most[what - 3] + 1), 5);
            CHECK.refused("rule, below", x, x.rule(what, -1), 5);
            CHECK.taken("rule(" + what + ", 0)", x, x.rule(what, 0));
            CHECK.taken("many(" + what + ")", x, x.many(what), 0);
        }
        CHECK.refused("rule(2, 0)", x, x.rule(2, 0), 5);
        CHECK.refused("rule(6, 0)", x, x.rule(6, 0), 5);
        x.hour(1);
        CHECK.taken("SLACK 0", x, x.turnsLeft(), 4);
        CHECK.refused("build(1, 0)", x, x.build(1, 0), 2);
        CHECK.refused("build(0, 0)", x, x.build(0, 0), 5);
        CHECK.refused("build(0, 100)", x, x.build(0, 100), 5);
        CHECK.taken("build(0, 1)", x, x.build(0, 1), 1);
        CHECK.taken("its REACH has it", x, x.reach(0, 4), 2);
        CHECK.taken("build(0, 99)", x, x.build(0, 99), 2);
        CHECK.taken("NEEDS", x, x.mill(2, 1), 99);
        CHECK.taken("it grinds, too", x, x.hour(1), 2);
        CHECK.taken("that one", x, x.mill(1, 2), 1);
        x.build(0, 5);
        x.build(0, 5);
        CHECK.taken("the sixth", x, x.build(0, 5), 5);
        CHECK.refused("a seventh", x, x.build(0, 5), 7);
        CHECK.refused("a number comes ahead of that", x, x.build(0, 100), 5);
        CHECK.taken("train(0, 40)", x, x.train(0, 40));
        CHECK.taken("STRENGTH", x, x.winder(0, 0), 40);
        CHECK.taken("train(0, 1)", x, x.train(0, 1));
        CHECK.taken("he winds so", x, x.wind(0, false), 5);
        CHECK.refused("train(0, 0)", x, x.train(0, 0), 5);
        CHECK.refused("train(0, 41)", x, x.train(0, 41), 5);
        CHECK.refused("train(1, 0)", x, x.train(1, 0), 2);
    }

    private static void ahead() {
        ClockRiver x = Check.riverOf(SMALL);
        int[] holds = {0, 4, 4, 3, 1, 0, 0};
        int[] ground = {0, 0, 1, 2, 3, 3, 3};
        int[] sea = {0, 0, 3, 6, 9, 10, 10};
        for (int i = 0; i < 7; i++) {
            CHECK.taken("turnsIn(" + i + ")", x, x.turnsIn(i), Math.max(0, 4 - i));
            CHECK.taken("storedIn(0, " + i + ")", x, x.storedIn(0, i), holds[i]);
            CHECK.taken("groundIn(0, " + i + ")", x, x.groundIn(0, i), ground[i]);
            CHECK.taken("seaIn(" + i + ")", x, x.seaIn(i), sea[i]);
        }
        x.hour(3);
        CHECK.taken("the next ones alone", x, x.groundIn(0, 500), 1);
        CHECK.taken("the next ones alone", x, x.seaIn(500), 4);
        CHECK.taken("all stays", x, x.many(6), 3);
        x.rain(true);
        CHECK.taken("rainy as it is", x, x.storedIn(0, 1), 6);
        CHECK.taken("OILED as it is", x, x.turnsIn(0), 1);
        int[] wrong = {-1, 501, LEAST, MOST};
        for (int hours : wrong) {
            CHECK.refused("turnsIn", x, x.turnsIn(hours), 5);
            CHECK.refused("storedIn", x, x.storedIn(0, hours), 5);
            CHECK.refused("groundIn", x, x.groundIn(0, hours), 5);
            CHECK.refused("seaIn", x, x.seaIn(hours), 5);
        }
        CHECK.refused("storedIn(1, 501)", x, x.storedIn(1, 501), 2);
        CHECK.refused("groundIn(1, 501)", x, x.groundIn(1, 501), 2);
    }

    private static void whenFirst() {
        ClockRiver x = Check.riverOf(SMALL);
        CHECK.taken("dryIn(0): now", x, x.dryIn(0), 0);
        x.hour(1);
        CHECK.taken("dryIn(0)", x, x.dryIn(0), 4);
        CHECK.refused("dryIn(1)", x, x.dryIn(1), 2);
        CHECK.refused("floodIn(0)", x, x.floodIn(0), 8);
        CHECK.refused("floodIn(1)", x, x.floodIn(1), 2);
        CHECK.taken("stillIn()", x, x.stillIn(), 3);
        x.gate(0, 0);
        CHECK.refused("dryIn(0): never", x, x.dryIn(0), 8);
        x = Check.riverOf("turns 1;slack 0;reach a bank 500 gate 1 holds 500;reach b bank 499 gate 0;"
                + "reach c bank 999 gate 1 holds 500;reach d bank 999 gate 2 holds 1;");
        // a passes 1 and has 1; b floods in the HOUR behind 499; c is dry in 500
        CHECK.refused("just full is not FLOODED", x, x.floodIn(0), 8);
        CHECK.taken("floodIn(1): the last HOUR that counts", x, x.floodIn(1), 499);
        CHECK.taken("dryIn(2): the last that counts", x, x.dryIn(2), 500);
        CHECK.refused("d is never dry first but", x, x.dryIn(3), 8);
        CHECK.refused("stillIn(): never", x, x.stillIn(), 8);
        x.bring(2, 1);
        CHECK.refused("dryIn(2): one too late", x, x.dryIn(2), 8);
        x = Check.riverOf("turns 1;slack 0;reach a bank 500 gate 1 holds 500;reach b bank 500 gate 0;");
        CHECK.refused("floodIn(1): one too late", x, x.floodIn(1), 8);
        x = Check.riverOf("turns 60;reach a bank 59 gate 0;");
        CHECK.taken("floodIn(0): that which begins", x, x.floodIn(0), 0);
        CHECK.taken("stillIn() by SLACK 1", x, x.stillIn(), 60);
        x.rule(3, 9);
        CHECK.taken("stillIn() by SLACK 9", x, x.stillIn(), 7);
        x.oil();
        CHECK.taken("stillIn() by OIL", x, x.stillIn(), 12);
        CHECK.taken("new: stillIn()", x, new ClockRiver().stillIn(), 0);
    }

    private static void laws() {
        ClockRiver x = new ClockRiver();
        CHECK.taken("lawIn()", x, x.lawIn(), 0);
        x.hour(143);
        CHECK.taken("lawIn() at 143", x, x.lawIn(), 0);
        x.hour(1);
        CHECK.taken("lawIn() at 144", x, x.lawIn(), 24);
        x.hour(23);
        CHECK.taken("lawIn() at 167", x, x.lawIn(), 1);
        x.hour(1);
        CHECK.taken("lawIn() at 168", x, x.lawIn(), 0);
    }

    private static void enough() {
        ClockRiver x = Check.riverOf(SMALL);
        CHECK.taken("enough(0, 2, 1): 3 come in the first HOUR", x, x.enough(0, 2, 1), 3);
        CHECK.taken("enough(0, 3, 1): 2 and 1 pass one by one", x, x.enough(0, 3, 1), 3);
        // by 3 the third HOUR has 2 alone, by 4 it has 1 and 3
        CHECK.taken("enough(0, 3, 2)", x, x.enough(0, 3, 2), 4);
        CHECK.refused("enough(0, 1, 1)", x, x.enough(0, 1, 1), 8);
        CHECK.taken("enough(0, 0, 0)", x, x.enough(0, 0, 0), 0);
        CHECK.taken("enough(0, 100, 0)", x, x.enough(0, 100, 0), 0);
        CHECK.refused("enough(0, 101, 0)", x, x.enough(0, 101, 0), 5);
        CHECK.refused("enough(0, -1, 0)", x, x.enough(0, -1, 0), 5);
        CHECK.refused("enough(0, 5, 6)", x, x.enough(0, 5, 6), 5);
        CHECK.refused("enough(0, 5, -1)", x, x.enough(0, 5, -1), 5);
        CHECK.refused("enough(1, 101, 0)", x, x.enough(1, 101, 0), 2);
        x.hour(4);
        CHECK.taken("of the next HOURS alone", x, x.enough(0, 2, 1), 3);
        CHECK.taken("TURNS stay", x, x.turnsLeft(), 0);
    }

    private static void bestGates() {
        // a passes g, mill m needs 4; b has what a passed, mill n needs 2, mill o needs 2
        ClockRiver x = Check.riverOf("turns 0;reach a bank 50 gate 0 holds 8;reach b bank 50 gate 9;"
                + "mill m at a needs 4;mill n at b needs 2;mill o at b needs 2;");
        CHECK.taken("bestGate(0, 1)", x, x.bestGate(0, 1), 4);
        CHECK.taken("bestGround(0, 1)", x, x.bestGround(0, 1), 1);
        // in 3 HOURS by 4: m twice, n and o twice; by 2: n and o twice
        CHECK.taken("bestGate(0, 3)", x, x.bestGate(0, 3), 4);
        CHECK.taken("bestGround(0, 3)", x, x.bestGround(0, 3), 6);
        // in 5 HOURS by 2: n and o four times
        CHECK.taken("bestGate(0, 5)", x, x.bestGate(0, 5), 2);
        CHECK.taken("bestGround(0, 5)", x, x.bestGround(0, 5), 8);
        CHECK.taken("bestGate(0, 0)", x, x.bestGate(0, 0), 0);
        CHECK.taken("bestGround(0, 0)", x, x.bestGround(0, 0), 0);
        CHECK.taken("bestGate(1, 48): nothing comes", x, x.bestGate(1, 48), 0);
        CHECK.refused("bestGate(0, 49)", x, x.bestGate(0, 49), 5);
        CHECK.refused("bestGround(0, 49)", x, x.bestGround(0, 49), 5);
        CHECK.refused("bestGate(0, -1)", x, x.bestGate(0, -1), 5);
        CHECK.refused("bestGround(0, -1)", x, x.bestGround(0, -1), 5);
        CHECK.refused("bestGate(2, 49)", x, x.bestGate(2, 49), 2);
        CHECK.refused("bestGround(2, 49)", x, x.bestGround(2, 49), 2);
        CHECK.taken("GATES stay", x, x.reach(0, 1), 0);
    }

    private static void hires() {
        // by SLACK 9 and STRENGTH 5 the MILL grinds once in a spell, by 12 twice (12, then 3)
        ClockRiver x = Check.riverOf("slack 9;reach a bank 99 gate 99;mill m at a needs 3;"
                + "winder big strength 12 wage 5;winder dear strength 5 wage 3;winder wee strength 5 wage 2;"
                + "winder poor strength 1 wage 0;");
        CHECK.taken("hire(1, 0): who costs nothing is ahead of nobody", x, x.hire(1, 0), 0);
        CHECK.taken("hireAt(1, 0, 0)", x, x.hireAt(1, 0, 0), 3);
        CHECK.taken("hire(1, 1)", x, x.hire(1, 1), 2);
        CHECK.taken("hireAt(1, 1, 0)", x, x.hireAt(1, 1, 0), 2);
        CHECK.taken("hire(1, 2)", x, x.hire(1, 2), 5);
        CHECK.taken("hireAt(1, 2, 0)", x, x.hireAt(1, 2, 0), 0);
        CHECK.refused("hire(1, 3)", x, x.hire(1, 3), 8);
        CHECK.refused("hireAt(1, 3, 0)", x, x.hireAt(1, 3, 0), 8);
        CHECK.taken("hire(2, 2): twice the same", x, x.hire(2, 2), 4);
        CHECK.taken("hire(2, 3)", x, x.hire(2, 3), 7);
        CHECK.taken("hireAt(2, 3, 0): the first by who winds first", x, x.hireAt(2, 3, 0), 0);
        CHECK.taken("hireAt(2, 3, 1)", x, x.hireAt(2, 3, 1), 2);
        CHECK.taken("hire(4, 8)", x, x.hire(4, 8), 20);
        CHECK.refused("hire(4, 999)", x, x.hire(4, 999), 8);
        CHECK.refused("hire(0, 0)", x, x.hire(0, 0), 5);
        CHECK.refused("hire(5, 0)", x, x.hire(5, 0), 5);
        CHECK.refused("hire(1, -1)", x, x.hire(1, -1), 5);
        CHECK.refused("hire(1, 1000)", x, x.hire(1, 1000), 5);
        CHECK.refused("hireAt(2, 999, 2)", x, x.hireAt(2, 999, 2), 5);
        CHECK.refused("hireAt(2, 0, -1)", x, x.hireAt(2, 0, -1), 5);
        CHECK.refused("hireAt(5, 0, 0)", x, x.hireAt(5, 0, 0), 5);
        CHECK.taken("nobody winds in truth", x, x.many(11), 0);
        x.hour(144);
        CHECK.taken("the law is not asked", x, x.hire(1, 1), 2);
        x = Check.riverOf("slack 0;turns 3;reach a bank 99 gate 99 holds 3;mill m at a needs 3;winder w strength 1;");
        CHECK.taken("hire(3, 12): it grinds by itself", x, x.hire(3, 12), 0);
        CHECK.taken("hireAt(3, 12, 2): nobody", x, x.hireAt(3, 12, 2), 6);
    }

    private static void whoWound() {
        ClockRiver x = Check.riverOf("winder a strength 10 wage 7;winder b strength 20 wage 3;"
                + "winder c strength 30 wage 2;winder d strength 30 wage 9;");
        CHECK.taken("wound(0, 30): ab, c, d", x, x.wound(0, 30), 3);
        CHECK.taken("sure(0, 30): nobody", x, x.sure(0, 30), 0);
        CHECK.taken("cheapest(0, 30)", x, x.cheapest(0, 30), 2);
        CHECK.taken("wound(0, 50): bc, bd", x, x.wound(0, 50), 2);
        CHECK.taken("sure(0, 50)", x, x.sure(0, 50), 2);
        CHECK.taken("cheapest(0, 50)", x, x.cheapest(0, 50), 5);
        // abc 60, abd 60, cd 60, acd, bcd, abcd
        CHECK.taken("wound(0, 60): 60 at most", x, x.wound(0, 60), 6);
        CHECK.taken("cheapest(0, 60): cd", x, x.cheapest(0, 60), 11);
        CHECK.taken("wound(60, 60): all", x, x.wound(60, 60), 16);
        CHECK.taken("wound(5, 5): nobody", x, x.wound(5, 5), 1);
        CHECK.taken("sure(5, 5)", x, x.sure(5, 5), 0);
        CHECK.taken("cheapest(5, 5)", x, x.cheapest(5, 5), 0);
        CHECK.taken("wound(5, 4)", x, x.wound(5, 4), 0);
        CHECK.refused("sure(5, 4)", x, x.sure(5, 4), 8);
        CHECK.refused("cheapest(5, 4)", x, x.cheapest(5, 4), 8);
        int[] wrong = {-1, 61, LEAST, MOST};
        for (int turns : wrong) {
            CHECK.refused("wound", x, x.wound(turns, 0), 5);
            CHECK.refused("wound", x, x.wound(0, turns), 5);
            CHECK.refused("sure", x, x.sure(turns, 0), 5);
            CHECK.refused("sure", x, x.sure(0, turns), 5);
            CHECK.refused("cheapest", x, x.cheapest(turns, 0), 5);
            CHECK.refused("cheapest", x, x.cheapest(0, turns), 5);
        }
    }

    private static void games() {
        // the first's water is the second's: a holds 10, m needs 5, n at b needs 5
        ClockRiver x = Check.riverOf("reach a bank 50 gate 5 holds 10;reach b bank 50 gate 5 holds 5;"
                + "mill m at a needs 5;mill n at b needs 5;");
        CHECK.taken("game(0, 1, 0)", x, x.game(0, 1, 0), 0);
        // open: m 1, n 1 = 0; close: n 1 = -1; leave: 0
        CHECK.taken("game(0, 1, 1)", x, x.game(0, 1, 1), 0);
        CHECK.taken("moveOf(0, 1, 1): to open before to leave", x, x.moveOf(0, 1, 1), 0);
        // n is first: open or leave 0, close +(-1)
        CHECK.taken("game(1, 0, 1)", x, x.game(1, 0, 1), 0);
        // leave: m 1 n 1, a 5 b 5, second leaves: m 1 n 1 = 0; open: m 1 n 1, a 0 b 10, then n 1 = -1; close: n 1, ..
        CHECK.taken("game(0, 1, 2)", x, x.game(0, 1, 2), 0);
        CHECK.taken("moveOf(0, 1, 2): to leave", x, x.moveOf(0, 1, 2), 2);
        x = Check.riverOf("reach a bank 50 gate 0 holds 0;reach b bank 50 gate 5 holds 5;"
                + "mill m at b needs 9;mill n at b needs 5;");
        // to close keeps n from grinding
        CHECK.taken("game(0, 1, 1)", x, x.game(0, 1, 1), 0);
        CHECK.taken("moveOf(0, 1, 1): to close", x, x.moveOf(0, 1, 1), 1);
        CHECK.taken("game(1, 0, 1)", x, x.game(1, 0, 1), 1);
        // behind the close n opens and grinds: -1 whatever the first does
        CHECK.taken("game(0, 1, 2): -1", x, x.game(0, 1, 2), -1);
        CHECK.taken("moveOf(0, 1, 2): all are as good", x, x.moveOf(0, 1, 2), 0);
        CHECK.refused("game(0, 0, 1)", x, x.game(0, 0, 1), 5);
        CHECK.refused("moveOf(0, 0, 1)", x, x.moveOf(0, 0, 1), 5);
        CHECK.refused("game(2, 2, 1)", x, x.game(2, 2, 1), 2);
        CHECK.refused("game(0, 2, 9)", x, x.game(0, 2, 9), 2);
        CHECK.refused("moveOf(-1, 0, 9)", x, x.moveOf(-1, 0, 9), 2);
        CHECK.refused("game(0, 1, 5)", x, x.game(0, 1, 5), 5);
        CHECK.refused("game(0, 1, -1)", x, x.game(0, 1, -1), 5);
        CHECK.refused("moveOf(0, 1, 0)", x, x.moveOf(0, 1, 0), 5);
        CHECK.refused("moveOf(0, 1, 5)", x, x.moveOf(0, 1, 5), 5);
        CHECK.taken("GATES stay", x, x.reach(1, 1), 5);
        x.hour(1);
        CHECK.taken("what was ground ahead does not count", x, x.game(1, 0, 0), 0);
    }

    private static void fractions() {
        ClockRiver x = Check.riverOf(THREE + "winder cid strength 12 wage 0;");
        CHECK.refused("share(0): nothing was", x, x.share(0), 8);
        CHECK.refused("share(3)", x, x.share(3), 2);
        x.rain(true);
        x.hour(3);
        CHECK.fraction("share(0)", x, x.share(0), 3, 5);
        CHECK.fraction("share(1)", x, x.share(1), 0, 1);
        CHECK.fraction("share(2)", x, x.share(2), 2, 5);
        CHECK.fraction("price(0)", x, x.price(0), 3, 4);
        CHECK.fraction("price(2)", x, x.price(2), 0, 1);
        CHECK.refused("price(3)", x, x.price(3), 2);
        x.train(1, 3);
        CHECK.fraction("price(1)", x, x.price(1), 3, 1);
    }

    private static void wets() {
        ClockRiver x = new ClockRiver();
        CHECK.fraction("wet(0, 0)", x, x.wet(0, 0), 1, 1);
        CHECK.fraction("wet(0, 1)", x, x.wet(0, 1), 0, 1);
        CHECK.fraction("wet(1, 1)", x, x.wet(1, 1), 1, 4);
        CHECK.fraction("wet(2, 1)", x, x.wet(2, 1), 7, 16);
        CHECK.fraction("wet(3, 2)", x, x.wet(3, 2), 5, 32);
        CHECK.fraction("wet(12, 12)", x, x.wet(12, 12), 1, 1 << 24);
        CHECK.fraction("wet(11, 12)", x, x.wet(11, 12), 0, 1);
        CHECK.fraction("wet(12, 0)", x, x.wet(12, 0), 1, 1);
        x.rule(5, 3);
        CHECK.fraction("wet(12, 1)", x, x.wet(12, 1), (1L << 48) - 23298085122481L, 1L << 48);
        x.rule(5, 0);
        CHECK.fraction("wet(12, 1), never", x, x.wet(12, 1), 0, 1);
        CHECK.fraction("wet(12, 0), never", x, x.wet(12, 0), 1, 1);
        x.rule(5, 16);
        CHECK.fraction("wet(12, 12), always", x, x.wet(12, 12), 1, 1);
        int[] wrong = {-1, 13, LEAST, MOST};
        for (int hours : wrong) {
            CHECK.refused("wet(.., 0)", x, x.wet(hours, 0), 5);
            CHECK.refused("wet(0, ..)", x, x.wet(0, hours), 5);
        }
    }

    private static void lived(String run, ClockRiver x, int missed, int hours, int ground, int winds, int left) {
        CHECK.taken(run + ", MISSED", x, x.lived(0), missed);
        CHECK.taken(run + ", HOURS", x, x.lived(1), hours);
        CHECK.taken(run + ", GROUND", x, x.lived(2), ground);
        CHECK.taken(run + ", wound", x, x.lived(3), winds);
        CHECK.taken(run + ", left", x, x.lived(4), left);
    }

    private static void lives() {
        ClockRiver x = Check.riverOf(SMALL);
        CHECK.refused("lived(0): there was none", x, x.lived(0), 8);
        CHECK.refused("lived(5)", x, x.lived(5), 5);
        CHECK.refused("lived(-1)", x, x.lived(-1), 5);
        CHECK.refused("live(-1)", x, x.live(-1), 5);
        CHECK.refused("live(10000)", x, x.live(10000), 5);
        CHECK.refused("live(0): no WEEKS", x, x.live(0), 8);
        Check.weeks(x, "hour 4;when ground m = 3;wind w;rain;rain;gate a 3;gate a 0;end;when ground m>3;oil;end;"
                + "when stored a<2;hour 2;end;when raining;dry;dry;wind w back;end;oil;");
        CHECK.taken("live(0)", x, x.live(0), 15);
        // behind 4 HOURS: HOLDS 1, TURNS 0; wind 6, rain, GATE 0; 2 HOURS: 1 + 11, + 10, of 50; TURNS 4
        lived("live(0)", x, 3, 6, 3, 2, 0);
        CHECK.taken("all is as it is then", x, x.many(6), 6);
        CHECK.taken("HOLDS", x, x.reach(0, 2), 22);
        CHECK.taken("GATE", x, x.reach(0, 1), 0);
        CHECK.taken("TURNS", x, x.turnsLeft(), -2);
        CHECK.taken("it is dry", x, x.many(8), 0);
        CHECK.taken("OILED", x, x.many(9), 12);
        CHECK.taken("WAGES", x, x.winder(0, 3), 8);
        CHECK.taken("GROUND", x, x.many(12), 3);
        Check.weeks(x, "loop 3;when stored a = 22;hour 1;end;loop 2;end;end;");
        // the first HOUR brings nothing down: TURNS -2 come from the sea, HOLDS 24
        CHECK.taken("loops", x, x.live(9999), 8);
        lived("loops", x, 0, 1, 0, 0, 0);
        CHECK.refused("live(10000)", x, x.live(10000), 5);
        lived("the latest with STATUS 0", x, 0, 1, 0, 0, 0);
        Check.weeks(x, "oil;stop;oil;");
        CHECK.taken("stop", x, x.live(5), 2);
        lived("stop", x, 0, 0, 0, 0, 0);
        Check.weeks(x, "loop 9;when raining;end;stop;end;oil;");
        CHECK.taken("stop within", x, x.live(5), 3);
        Check.weeks(x, "");
        CHECK.taken("WEEKS of no STEPS", x, x.live(5), 0);
    }

    private static void livesByDraws() {
        // seed 0: 10799 -> 1349 rest by 16: 5; then 10799*2971+10799 = 32094628, left by 65536 47524 -> 5940, even
        ClockRiver x = Check.riverOf("odds 6;winder a strength 1 wage 5;winder b strength 2 wage 7;");
        Check.weeks(x, "any;");
        CHECK.taken("any by seed 0", x, x.live(0), 1);
        CHECK.taken("5 is below ODDS 6", x, x.many(8), 1);
        CHECK.taken("WINDER 0", x, x.turnsLeft(), 1);
        x.rule(5, 5);
        CHECK.taken("any by seed 0 again", x, x.live(0), 1);
        CHECK.taken("5 is not below ODDS 5", x, x.many(8), 0);
        lived("any", x, 0, 0, 0, 1, 0);
        // seed 1: 13770 -> 1721 rest 9; then 13770*2971+10799 = 40921469, left 27005 -> 3375, odd
        x.live(1);
        CHECK.taken("WINDER 1", x, x.winder(1, 2), 1);
        CHECK.taken("dry stays dry without being MISSED", x, x.lived(0), 0);
        x.hour(144);
        x.rule(5, 6);
        Check.weeks(x, "any;wind a;hour 24;any;");
        CHECK.taken("a seventh DAY", x, x.live(0), 4);
        lived("a seventh DAY", x, 2, 24, 0, 1, 0);
        // draws go on: 47524*2971+10799 = 141204603, left 40059 -> 5007 rest 15 (dry); then 40059*2971+10799
        // = 119026088, left 12712 -> 1589, odd
        CHECK.taken("the weather by the third draw", x, x.many(8), 0);
        CHECK.taken("WINDER 1 by the fourth", x, x.winder(1, 2), 2);
        x = Check.riverOf("odds 16;");
        Check.weeks(x, "any;");
        x.live(0);
        CHECK.taken("any without WINDERS is MISSED", x, x.lived(0), 1);
        CHECK.taken("the weather stays", x, x.many(8), 0);
    }

    private static void livesLimits() {
        ClockRiver x = Check.riverOf(SMALL);
        Check.weeks(x, "loop 99;oil;oil;oil;end;");
        CHECK.taken("298 STEPS", x, x.live(0), 298);
        lived("298 STEPS", x, 0, 0, 0, 0, 0);
        Check.weeks(x, "oil;oil;loop 99;oil;oil;oil;end;");
        CHECK.taken("300 STEPS", x, x.live(0), 300);
        CHECK.taken("nothing is left", x, x.lived(4), 0);
        Check.weeks(x, "oil;oil;loop 99;oil;oil;oil;end;loop 9;end;");
        CHECK.taken("300 of 301", x, x.live(0), 300);
        CHECK.taken("one is left", x, x.lived(4), 1);
        Check.weeks(x, "oil;oil;oil;loop 99;oil;oil;oil;end;");
        CHECK.taken("300 of 301, in a loop", x, x.live(0), 300);
        CHECK.taken("one is left", x, x.lived(4), 1);
        Check.weeks(x, "loop 99;loop 99;loop 99;end;end;end;");
        CHECK.taken("loops within loops", x, x.live(0), 300);
        CHECK.taken("one is left", x, x.lived(4), 1);
        Check.weeks(x, "loop 99;hour 24;end;loop 99;hour 24;end;");
        CHECK.taken("200 STEPS", x, x.live(0), 200);
        CHECK.taken("HOURS", x, x.many(6), 4752);
        CHECK.taken("200 STEPS", x, x.live(0), 200);
        CHECK.taken("HOURS", x, x.many(6), 9504);
        Check.weeks(x, "loop 99;hour 24;end;hour 15;hour 1;");
        CHECK.taken("102 STEPS", x, x.live(0), 102);
        CHECK.taken("HOURS to 9,999", x, x.many(6), 9999);
        lived("as a whole", x, 80, 495, 0, 0, 0);
    }

    private static void means() {
        ClockRiver x = Check.riverOf(SMALL + "odds 8;");
        CHECK.refused("mean(0, 1): no WEEKS", x, x.mean(0, 1), 8);
        CHECK.refused("mean(0, 0)", x, x.mean(0, 0), 5);
        CHECK.refused("mean(0, 21)", x, x.mean(0, 21), 5);
        CHECK.refused("mean(-1, 1)", x, x.mean(-1, 1), 5);
        CHECK.refused("mean(10000, 1)", x, x.mean(10000, 1), 5);
        CHECK.refused("mean(9999, 2)", x, x.mean(9999, 2), 5);
        CHECK.refused("mean(MOST, 20)", x, x.mean(MOST, 20), 5);
        x.hour(3);
        Check.weeks(x, "any;when raining;hour 1;end;");
        // GROUND 2 ahead; by seed 0 the first draw is 5 (rain: one more), by seed 1 it is 9 (dry)
        CHECK.fraction("mean(0, 1)", x, x.mean(0, 1), 3, 1);
        CHECK.fraction("mean(1, 1)", x, x.mean(1, 1), 2, 1);
        CHECK.fraction("mean(0, 2)", x, x.mean(0, 2), 5, 2);
        CHECK.taken("mean(9980, 20)", x, x.mean(9980, 20));
        CHECK.taken("all stays as it is", x, x.many(6), 3);
        CHECK.taken("all stays as it is", x, x.winder(0, 2), 0);
        CHECK.refused("lived() tells of live() alone", x, x.lived(0), 8);
    }

    private static void marks() {
        ClockRiver x = Check.riverOf(SMALL);
        CHECK.refused("back()", x, x.back(), 8);
        Check.weeks(x, "oil;");
        CHECK.taken("mark()", x, x.mark(), 1);
        x.hour(2);
        x.gate(0, 9);
        x.train(0, 9);
        x.rule(3, 9);
        x.rain(true);
        x.oil();
        x.build(0, 7);
        x.wind(0, false);
        Check.weeks(x, "oil;oil;");
        CHECK.taken("a second mark()", x, x.mark(), 2);
        CHECK.taken("another RIVER", x, Check.river(x, "reach z bank 3 gate 3;reach y bank 3 gate 3;"), 2);
        CHECK.taken("a third mark()", x, x.mark(), 3);
        CHECK.refused("a fourth mark()", x, x.mark(), 7);
        x.hour(9);
        x.tray(0, 0, 2);
        x.price(0);
        CHECK.taken("back()", x, x.back(), 2);
        CHECK.taken("HOUR", x, x.many(6), 0);
        CHECK.refused("no WEEKS were there", x, x.live(0), 8);
        CHECK.taken("back() to the RIVER ahead", x, x.back(), 1);
        int[] figures = {1, 2, 1, 9, 5, 4, 2, 0, 1, 12, 4, 4, 1};
        for (int what = 0; what < figures.length; what++) {
            CHECK.taken("back: many(" + what + ")", x, x.many(what), figures[what]);
        }
        CHECK.taken("TURNS", x, x.turnsLeft(), 11);
        CHECK.taken("its WEEKS", x, x.live(0), 2);
        CHECK.taken("its NAMES", x, Check.weeks(x, "gate a 5;wind w;when ground m>1;end;"), 3);
        CHECK.taken("back() to the first", x, x.back(), 0);
        CHECK.taken("its WEEKS", x, x.live(0), 1);
        CHECK.taken("HOUR", x, x.many(6), 0);
        CHECK.taken("GATE", x, x.reach(0, 1), 3);
        CHECK.taken("STRENGTH", x, x.winder(0, 0), 6);
        CHECK.taken("WAGES", x, x.many(11), 0);
        CHECK.taken("water", x, x.water(4), 0);
        CHECK.taken("MILLS", x, x.many(1), 1);
        CHECK.taken("TRAYS are no part of it", x, x.read(0, 1), 0);
        CHECK.taken("lived() is none either", x, x.lived(1), 0);
        CHECK.refused("back() once more", x, x.back(), 8);
        CHECK.taken("a MARK anew", x, x.mark(), 1);
    }

    /** An object is used for at most 512 calls: the last of them is as good as the first. */
    private static void lastCall() {
        ClockRiver x = Check.riverOf(SMALL);
        // four feeds and river() were the first five
        for (int i = 5; i < 511; i++) {
            x.hour(1);
        }
        CHECK.due("the 512th call", x.many(6), 506);
    }
}
