/** Promises 21 to 30: water, sheets, what is shown, editions, notices, late things. */
public final class WaterTest {
    private static final int NO = -1000000;
    private static final Due due = new Due("WaterTest");

    public static void main(String[] args) {
        waterRefused();
        waterOfOne();
        waterQuarrels();
        waterTies();
        waterOfTheLeastFeet();
        bestOfTwo();
        bestGoesRound();
        waterByDays();
        leastWater();
        leastWaterByRule();
        sheet();
        shown();
        shownNear();
        shownByScale();
        judge();
        edition();
        editionByPlaces();
        editionOfLights();
        chartsByTheRuleToday();
        editionsFull();
        notice();
        noticeMissed();
        noticesFull();
        noticed();
        late();
        lateWithoutClause();
        toldAndEndedOnOneDay();
        due.end();
    }

    // Promise 21
    private static void waterRefused() {
        FathomRoom x = new FathomRoom();
        x.survey(0, 0, 0);
        x.sound(0, 5, 0, 9);
        due.is("21 no cell", x.water(-1, 0, 0), NO);
        due.is("21 no cell", x.water(48, 0, 0), NO);
        due.is("21 no day", x.water(5, -1, 0), NO);
        due.is("21 no day", x.water(5, 10000, 0), NO);
        due.is("21 no what", x.water(5, 0, -1), NO);
        due.is("21 no what", x.water(5, 0, 5), NO);
        due.is("21 the last day", x.water(5, 9999, 0), 9);
        for (int what = 0; what < 5; what++) {
            due.is("21 no depth " + what, x.water(6, 0, what), NO);
        }
    }

    private static void waterOfOne() {
        FathomRoom x = new FathomRoom();
        x.survey(0, 0, 0);
        x.sound(0, 5, 0, 9);
        x.sound(0, 5, 0, 7);
        x.sound(0, 5, 0, 12);
        int[] whats = {12, 2, 0, 2, 12};
        for (int what = 0; what < 5; what++) {
            due.is("21 its latest " + what, x.water(5, 0, what), whats[what]);
        }
    }

    private static void waterQuarrels() {
        FathomRoom x = new FathomRoom();
        x.survey(2, 0, 2);
        x.survey(1, 0, 3);
        x.survey(0, 0, 1);
        x.sound(0, 0, 0, 20);
        x.sound(1, 0, 0, 15);
        x.sound(2, 0, 0, 23);
        int[] none = {20, 0, 0, 0, 20};
        for (int what = 0; what < 5; what++) {
            due.is("21 spans together " + what, x.water(0, 0, what), none[what]);
        }
        x.sound(1, 0, 0, 14);
        int[] deeper = {14, 3, 1, 0, 14};
        for (int what = 0; what < 5; what++) {
            due.is("21 one quarrels " + what, x.water(0, 0, what), deeper[what]);
        }
        x.sound(2, 0, 0, 24);
        int[] both = {14, 3, 2, 0, 14};
        for (int what = 0; what < 5; what++) {
            due.is("21 two quarrel " + what, x.water(0, 0, what), both[what]);
        }
        x.sound(1, 0, 0, 26);
        int[] above = {20, 0, 2, 0, 20};
        for (int what = 0; what < 5; what++) {
            due.is("21 two quarrel from above " + what, x.water(0, 0, what), above[what]);
        }
    }

    private static void waterTies() {
        FathomRoom x = new FathomRoom();
        x.survey(1, 0, 0);
        x.survey(0, 0, 0);
        x.survey(2, 0, 0);
        x.survey(0, 0, 0);
        // Things 0 .. 3: THE BEST is survey 2's; surveys 3, 1, 0 quarrel with it by alike FEET.
        x.sound(3, 0, 0, 10);
        x.sound(1, 0, 0, 10);
        x.sound(0, 0, 0, 10);
        x.sound(2, 0, 0, 30);
        int[] whats = {10, 0, 3, 3, 10};
        for (int what = 0; what < 5; what++) {
            due.is("21 the least number " + what, x.water(0, 0, what), whats[what]);
        }
        x.sound(3, 0, 0, 10);
        due.is("21 the least number of the latest", x.water(0, 0, 1), 1);
        x.sound(1, 0, 0, 10);
        due.is("21 the least number, though not of the least survey", x.water(0, 0, 1), 2);
        x.sound(0, 0, 0, 30);
        due.is("21 alike to THE BEST: no quarrel", x.water(0, 0, 2), 2);
        due.is("21 then", x.water(0, 0, 1), 4);
    }

    /** FEET come ahead of the number of a THING, in whatever order the SURVEYS stand. */
    private static void waterOfTheLeastFeet() {
        for (int order = 0; order < 2; order++) {
            FathomRoom x = new FathomRoom();
            x.survey(0, 0, 0);
            x.survey(0, 0, 0);
            x.survey(2, 0, 0);
            x.sound(order, 0, 0, 11);
            x.sound(1 - order, 0, 0, 10);
            x.sound(2, 0, 0, 30);
            due.is("21 the least feet, not the least number", x.water(0, 0, 1), 1);
            due.is("21 the least feet", x.water(0, 0, 0), 10);
            due.is("21 two quarrel", x.water(0, 0, 2), 2);
            x.sound(1 - order, 0, 0, 12);
            due.is("21 the other one", x.water(0, 0, 1), 0);
        }
        FathomRoom y = new FathomRoom();
        y.survey(0, 0, 9);
        y.survey(2, 0, 9);
        y.tell(2, 0, 0, 999);
        y.sound(1, 0, 0, 999);
        y.sound(0, 0, 0, 981);
        due.is("21 the greatest spans together", y.water(0, 0, 2), 0);
        y.sound(0, 0, 0, 980);
        due.is("21 one more than the greatest spans", y.water(0, 0, 2), 1);
        due.is("21 then", y.water(0, 0, 4), 980);
    }

    private static void bestOfTwo() {
        FathomRoom x = new FathomRoom();
        x.survey(2, 0, 0);
        x.survey(0, 0, 0);
        x.sound(1, 0, 0, 20);
        x.sound(0, 0, 0, 30);
        due.is("21 THE BEST outranks the first thing", x.water(0, 0, 3), 1);
        x.sound(0, 1, 0, 30);
        x.sound(1, 1, 0, 20);
        due.is("21 THE BEST outranks a later one", x.water(1, 0, 3), 2);
    }

    private static void bestGoesRound() {
        FathomRoom x = new FathomRoom();
        // Rank ewl, year 5: 0 (lead, 6) above 1 (echo, 0); 1 above 2 (wire, 3); 2 above 0 by rank.
        x.survey(0, 6, 0);
        x.survey(2, 0, 0);
        x.survey(1, 3, 0);
        Due.rule(x, "year 5", 0);
        due.is("20 round", x.outranks(0, 1, 0) + x.outranks(1, 2, 0) + x.outranks(2, 0, 0), 3);
        x.sound(2, 0, 0, 30);
        x.sound(0, 0, 0, 30);
        x.sound(1, 0, 0, 30);
        due.is("21 of several the greatest survey", x.water(0, 0, 3), 0);
        due.is("21 two others only", x.water(0, 0, 0), 30);
        // In another cell two of them: only those there are outranked.
        x.sound(1, 1, 0, 40);
        x.sound(0, 1, 0, 41);
        due.is("21 of these", x.water(1, 0, 3), 4);
        x.sound(1, 2, 0, 40);
        x.sound(2, 2, 0, 41);
        due.is("21 of these", x.water(2, 0, 3), 5);
    }

    private static void waterByDays() {
        FathomRoom x = new FathomRoom();
        x.survey(0, 0, 0);
        x.survey(2, 0, 0);
        x.sound(0, 0, 0, 20);
        x.pass(5);
        x.sound(1, 0, 0, 30);
        x.pass(5);
        x.sound(1, 0, 0, 10);
        Due.rule(x, "rank lew", 3);
        due.is("21 on day 4", x.water(0, 4, 2), 0);
        due.is("21 on day 4", x.water(0, 4, 3), 0);
        due.is("21 on day 5", x.water(0, 5, 2), 1);
        due.is("21 on day 5", x.water(0, 5, 0), 20);
        due.is("21 on day 9", x.water(0, 9, 0), 20);
        due.is("21 on day 10", x.water(0, 10, 0), 10);
        due.is("21 on day 10", x.water(0, 10, 3), 0);
        Due.rule(x, "rank elw", 7);
        due.is("21 ahead of the text", x.water(0, 6, 3), 0);
        due.is("21 by the text", x.water(0, 7, 3), 1);
        due.is("21 by the text", x.water(0, 10, 3), 2);
        due.is("21 later than today", x.water(0, 5000, 0), 10);
    }

    private static void leastWater() {
        FathomRoom x = new FathomRoom();
        x.survey(0, 0, 0);
        x.sound(0, 0, 0, 20);
        x.tell(2, 0, 0, 21);
        due.is("21 not less", x.water(0, 0, 4), 20);
        x.tell(3, 0, 0, 19);
        due.is("21 a doubt", x.water(0, 0, 4), 19);
        x.tell(5, 0, 0, 18);
        due.is("21 a wreck", x.water(0, 0, 4), 18);
        x.tell(2, 0, 0, 17);
        due.is("21 a danger", x.water(0, 0, 4), 17);
        due.is("21 not the water", x.water(0, 0, 0), 20);
        due.is("21 none of them quarrels", x.water(0, 0, 2), 0);
        x.tell(4, 0, 0, 0);
        due.is("21 not a light", x.water(0, 0, 4), 17);
        x.pass(1);
        x.end(4);
        due.is("21 ended", x.water(0, 1, 4), 18);
        due.is("21 stood yesterday", x.water(0, 0, 4), 17);
        FathomRoom y = new FathomRoom();
        y.survey(0, 0, 0);
        y.tell(2, 0, 1, 33);
        due.is("21 the first thing of all", y.water(1, 0, 4), 33);
        x.tell(2, 0, 1, 33);
        due.is("21 a danger alone", x.water(1, 1, 4), 33);
        due.is("21 a danger alone is no water", x.water(1, 1, 0), NO);
        due.is("21 not yet told", x.water(1, 0, 4), NO);
        x.tell(4, 0, 2, 0);
        due.is("21 a light alone", x.water(2, 1, 4), NO);
    }

    /** LEAST WATER too is by THE RULE of its DAY. */
    private static void leastWaterByRule() {
        FathomRoom x = new FathomRoom();
        x.survey(2, 0, 0);
        x.survey(0, 0, 9);
        x.survey(1, 0, 0);
        x.sound(0, 0, 0, 20);
        x.sound(1, 0, 0, 12);
        x.sound(2, 0, 0, 15);
        x.tell(2, 0, 0, 14);
        // The lead quarrels with neither: no more than 9 feet off.
        Due.rule(x, "rank lwe", 5);
        due.is("21 by the wire", x.water(0, 4, 0), 15);
        due.is("21 by the lead", x.water(0, 5, 0), 12);
        due.is("21 least water ahead of the rule", x.water(0, 4, 4), 14);
        due.is("21 least water by the rule", x.water(0, 5, 4), 12);
        due.is("21 least water behind it", x.water(0, 6, 4), 12);
    }

    // Promise 22
    private static void sheet() {
        FathomRoom x = new FathomRoom();
        int[][] bad = {{-1, 1, 1, 0}, {48, 1, 1, 0}, {0, 0, 1, 0}, {0, 5, 1, 0}, {0, 1, 0, 0}, {0, 1, 5, 0},
            {0, 4, 4, 0}, {0, 1, 1, -1}, {0, 1, 1, 4}, {7, 1, 2, 0}, {5, 3, 4, 0}, {40, 2, 1, 0}, {24, 4, 1, 0},
            {47, 1, 2, 0}, {0, -1, -1, 0}, {0, 65536, 65536, 0}, {0, -4, -3, 0}};
        for (int[] b : bad) {
            due.is("22 bad sheet " + b[0] + " " + b[1], x.sheet(b[0], b[1], b[2], b[3]), -2);
        }
        int[][] fine = {{0, 1, 1, 0}, {0, 4, 3, 3}, {4, 3, 4, 0}, {47, 1, 1, 0}, {16, 4, 2, 1}, {23, 4, 1, 2}, {44, 1, 4, 2}};
        for (int i = 0; i < fine.length; i++) {
            due.is("22 sheet " + i, x.sheet(fine[i][0], fine[i][1], fine[i][2], fine[i][3]), i);
        }
        for (int i = fine.length; i < 16; i++) {
            due.is("22 sheet " + i, x.sheet(0, 1, 1, 0), i);
        }
        due.is("22 full", x.sheet(0, 1, 1, 0), -4);
        for (int[] b : bad) {
            due.is("22 bad ahead of full " + b[0] + " " + b[1], x.sheet(b[0], b[1], b[2], b[3]), -2);
        }
        due.is("43 sheets", x.count(4), 16);
    }

    // Promise 23
    private static void shown() {
        FathomRoom x = new FathomRoom();
        x.survey(0, 0, 0);
        x.sheet(0, 1, 4, 1);
        due.is("23 no sheet", x.shown(-1, 0), -5);
        due.is("23 no sheet", x.shown(1, 0), -5);
        due.is("23 no day", x.shown(0, -1), -5);
        due.is("23 no day", x.shown(0, 10000), -5);
        due.is("23 nothing there", x.shown(0, 0), 0);
        x.sound(0, 2, 0, 10);
        due.is("23 one", x.shown(0, 0), 4);
        x.pass(1);
        x.sound(0, 1, 0, 10);
        due.is("23 either would do: the least bits", x.shown(0, 1), 2);
        due.is("23 yesterday", x.shown(0, 0), 4);
        due.is("23 the last day", x.shown(0, 9999), 2);
        x.sound(0, 0, 0, 9);
        due.is("23 none alone: of two sets the least bits", x.shown(0, 1), 3);
        x.sound(0, 3, 0, 11);
        due.is("23 two of four", x.shown(0, 1), 5);
        x.tell(2, 0, 3, 2);
        due.is("23 by a danger", x.shown(0, 1), 9);
        x.tell(2, 0, 1, 1);
        due.is("23 a danger on one side", x.shown(0, 1), 10);
    }

    private static void shownNear() {
        FathomRoom x = new FathomRoom();
        x.survey(0, 0, 0);
        x.sheet(8, 2, 2, 1);
        x.sound(0, 8, 0, 10);
        x.sound(0, 9, 0, 13);
        x.sound(0, 16, 0, 16);
        x.sound(0, 17, 0, 19);
        due.is("23 the least shows all", x.shown(0, 0), 1);
        x.tell(2, 0, 16, 5);
        x.tell(2, 0, 9, 5);
        due.is("23 the least bits", x.shown(0, 0), 2);
        Due.rule(x, "near 2", 1);
        Due.rule(x, "near 4", 2);
        Due.rule(x, "near 5", 3);
        Due.rule(x, "near 14", 4);
        due.is("23 near 2", x.shown(0, 1), 2);
        due.is("23 near 4", x.shown(0, 2), 2);
        due.is("23 near 5", x.shown(0, 3), 1);
        due.is("23 near 14", x.shown(0, 4), 1);
        FathomRoom y = new FathomRoom();
        y.survey(0, 0, 0);
        y.sheet(0, 1, 2, 1);
        y.sound(0, 0, 0, 14);
        y.sound(0, 1, 0, 10);
        Due.rule(y, "near 3", 1);
        Due.rule(y, "near 4", 2);
        due.is("23 near 0", y.shown(0, 0), 2);
        due.is("23 near 3 of 4", y.shown(0, 1), 2);
        due.is("23 near 4 of 4", y.shown(0, 2), 1);
    }

    private static void shownByScale() {
        FathomRoom x = new FathomRoom();
        x.survey(0, 0, 0);
        for (int scale = 0; scale < 4; scale++) {
            x.sheet(0, 3, 4, scale);
        }
        x.sheet(1, 4, 1, 1);
        for (int cell = 0; cell < 32; cell++) {
            x.sound(0, cell, 0, 10);
        }
        due.is("23 scale 0", x.shown(0, 0), 4095);
        due.is("23 scale 1", x.shown(1, 0), 1 << 4 | 1 << 6);
        due.is("23 scale 2", x.shown(2, 0), 1 << 1);
        due.is("23 scale 3", x.shown(3, 0), 1);
        due.is("23 a column", x.shown(4, 0), 1 | 1 << 2);
    }

    // Promise 24
    private static void judge() {
        FathomRoom x = new FathomRoom();
        x.survey(0, 0, 0);
        x.sheet(8, 2, 3, 1);
        due.is("24 no sheet", x.judge(-1, 0), -5);
        due.is("24 no sheet", x.judge(1, 0), -5);
        due.is("24 a bit of none", x.judge(0, 64), -5);
        due.is("24 a bit of none", x.judge(0, -1), -5);
        due.is("24 a bit of none", x.judge(0, Integer.MIN_VALUE), -5);
        due.is("24 a bit of none", x.judge(0, 1 << 20 | 1), -5);
        due.is("24 nothing there", x.judge(0, 0), -1);
        due.is("24 nothing there", x.judge(0, 63), 0);
        due.is("24 nothing there", x.judge(0, 48), 4);
        x.sound(0, 8, 0, 10);
        x.sound(0, 10, 0, 10);
        x.sound(0, 17, 0, 10);
        due.is("24 none of them", x.judge(0, 0), 0);
        due.is("24 one shows all", x.judge(0, 16), -1);
        due.is("24 more than the fewest", x.judge(0, 21), -1);
        due.is("24 too far", x.judge(0, 1), 2);
        due.is("24 without water", x.judge(0, 1 | 2 | 4), 1);
        due.is("24 without water does not show", x.judge(0, 2), 0);
        due.is("24 the first of two", x.judge(0, 16 | 32), 5);
        x.pass(1);
        x.sound(0, 10, 0, 9);
        due.is("24 not as much water above", x.judge(0, 16), 2);
        Due.rule(x, "near 1", 1);
        due.is("24 near 1", x.judge(0, 16), -1);
        x.sheet(0, 3, 4, 0);
        due.is("24 twelve bits", x.judge(1, 4095), 0);
        due.is("24 a thirteenth bit", x.judge(1, 4096), -5);
        FathomRoom y = new FathomRoom();
        y.survey(0, 0, 0);
        y.sheet(0, 1, 3, 2);
        y.sound(0, 0, 0, 5);
        y.sound(0, 2, 0, 5);
        due.is("24 at distance 2", y.judge(0, 4), -1);
        y.pass(1);
        y.sound(0, 2, 0, 50);
        due.is("24 today", y.judge(0, 4), 0);
        y.tell(3, 0, 2, 5);
        due.is("24 by a doubt", y.judge(0, 4), -1);
    }

    // Promises 25 and 26
    private static void edition() {
        FathomRoom x = new FathomRoom();
        x.survey(0, 0, 0);
        x.sheet(9, 2, 2, 1);
        x.sheet(0, 3, 4, 0);
        due.is("25 no sheet", x.edition(-1), -1);
        due.is("25 no sheet", x.edition(2), -1);
        due.is("25 of nothing", x.edition(0), 0);
        due.is("26 nothing", x.printed(0, 9), NO);
        x.sound(0, 9, 0, 10);
        x.sound(0, 18, 0, 8);
        x.sound(0, 11, 0, 3);
        x.tell(2, 0, 18, 7);
        due.is("25 second", x.edition(0), 1);
        due.is("26 shown", x.printed(1, 18), 7);
        due.is("26 not shown", x.printed(1, 9), NO);
        due.is("26 no water", x.printed(1, 10), NO);
        due.is("26 not of it", x.printed(1, 11), NO);
        due.is("26 not of it", x.printed(1, 8), NO);
        due.is("26 no cell", x.printed(1, -1), NO);
        due.is("26 no cell", x.printed(1, 48), NO);
        due.is("26 no edition", x.printed(-1, 9), NO);
        due.is("26 no edition", x.printed(2, 9), NO);
        due.is("26 the first still", x.printed(0, 18), NO);
        due.is("25 of another", x.edition(1), 2);
        due.is("26 of another", x.printed(2, 9), 10);
        due.is("26 of another", x.printed(2, 11), 3);
        x.pass(1);
        x.sound(0, 9, 0, 2);
        due.is("26 stays", x.printed(2, 9), 10);
        due.is("25 anew", x.edition(0), 3);
        due.is("26 anew", x.printed(3, 9), 2);
        due.is("26 not shown any more", x.printed(3, 18), NO);
        Due.rule(x, "near 9", 1);
        x.end(3);
        x.sound(0, 10, 0, 11);
        due.is("25 by the rule today", x.edition(0), 4);
        due.is("26 by the rule today", x.printed(4, 9), 2);
        due.is("43 editions", x.count(5), 5);
    }

    /** A sheet of 2 rows and 3 columns from CELL 12 on, and all CELLS around it. */
    private static void editionByPlaces() {
        FathomRoom x = new FathomRoom();
        x.survey(0, 0, 0);
        x.sheet(12, 2, 3, 0);
        for (int cell = 0; cell < 40; cell++) {
            x.tell(2, 0, cell, cell);
            x.tell(4, 0, cell, 0);
        }
        x.edition(0);
        x.copy(0);
        due.is("27 its lights alone", x.lights(0), 6);
        for (int cell = 0; cell < 48; cell++) {
            boolean of = cell / 8 >= 1 && cell / 8 <= 2 && cell % 8 >= 4 && cell % 8 <= 6;
            due.is("26 printed in " + cell, x.printed(0, cell), of ? cell : NO);
            due.is("33 stands in " + cell, x.stood(0, cell, 0), of ? cell : NO);
        }
        Due.rule(x, "tell d", 0);
        x.notice();
        int[] around = {3, 4, 7, 11, 15, 19, 23, 27, 28, 31};
        for (int i = 0; i < around.length; i++) {
            x.tell(2, 0, around[i], 1);
        }
        x.notice();
        x.correct(0, 1);
        for (int cell : around) {
            due.is("33 not of the sheet: " + cell, x.stood(0, cell, 0), NO);
        }
    }

    // Promise 27
    private static void editionOfLights() {
        FathomRoom x = new FathomRoom();
        x.survey(0, 0, 0);
        x.sheet(9, 2, 2, 1);
        x.tell(4, 0, 9, 0);
        x.tell(4, 0, 9, 0);
        x.tell(4, 0, 18, 0);
        x.tell(4, 0, 11, 0);
        x.tell(4, 0, 1, 0);
        x.tell(2, 0, 9, 0);
        x.edition(0);
        due.is("27 lights", x.lights(0), 3);
        x.pass(1);
        x.end(1);
        x.edition(0);
        due.is("27 less", x.lights(1), 2);
        due.is("27 as they were", x.lights(0), 3);
        due.is("27 none", x.lights(-1), -1);
        due.is("27 none", x.lights(2), -1);
        x.sheet(40, 1, 1, 0);
        x.edition(1);
        due.is("27 no light", x.lights(2), 0);
    }

    /** THE RULE that a judge() and an EDITION keep to came in force TODAY. */
    private static void chartsByTheRuleToday() {
        FathomRoom x = new FathomRoom();
        x.survey(0, 0, 0);
        x.sheet(0, 1, 2, 1);
        x.sound(0, 0, 0, 14);
        x.sound(0, 1, 0, 10);
        Due.rule(x, "near 4", 1);
        Due.rule(x, "near 0", 2);
        due.is("24 ahead of the rule", x.judge(0, 1), 1);
        x.edition(0);
        due.is("25 ahead of the rule", x.printed(0, 0), NO);
        due.is("25 ahead of the rule", x.printed(0, 1), 10);
        x.pass(1);
        due.is("24 from today on", x.judge(0, 1), -1);
        x.edition(0);
        due.is("25 from today on", x.printed(1, 0), 14);
        due.is("25 from today on", x.printed(1, 1), NO);
        x.pass(1);
        due.is("24 up to yesterday", x.judge(0, 1), 1);
        x.edition(0);
        due.is("25 up to yesterday", x.printed(2, 0), NO);
        due.is("23 each by its day", x.shown(0, 1), 1);
        due.is("23 each by its day", x.shown(0, 0) + x.shown(0, 2), 4);
    }

    private static void editionsFull() {
        FathomRoom x = new FathomRoom();
        x.sheet(0, 1, 1, 0);
        x.sheet(1, 1, 1, 0);
        for (int i = 0; i < 60; i++) {
            due.is("25 edition " + i, x.edition(i % 2), i);
        }
        due.is("25 full", x.edition(0), -4);
        due.is("25 none ahead of full", x.edition(2), -1);
        due.is("43 editions", x.count(5), 60);
    }

    // Promise 28
    private static void notice() {
        FathomRoom x = new FathomRoom();
        x.survey(0, 0, 0);
        due.is("28 nothing at all", x.notice(), -3);
        x.tell(2, 0, 0, 5);
        due.is("28 nothing must be told", x.notice(), -3);
        Due.rule(x, "tell uw", 0);
        due.is("28 no danger must be told", x.notice(), -3);
        x.tell(5, 0, 1, 5);
        due.is("28 a wreck", x.notice(), 0);
        due.is("28 nothing since", x.notice(), -3);
        x.move(1, 2);
        due.is("28 moved", x.notice(), 1);
        due.is("28 what is told", x.noticed(1, 0), 2);
        due.is("28 what is ended", x.noticed(1, 1), 101);
        due.is("28 no more", x.noticed(1, 2), -1);
        x.end(2);
        due.is("28 ended alone", x.notice(), 2);
        due.is("28 ended alone", x.noticed(2, 0), 102);
        x.end(0);
        due.is("28 a danger ended", x.notice(), -3);
        Due.rule(x, "tell d", 1);
        due.is("28 not in force yet", x.notice(), -3);
        x.pass(1);
        due.is("28 the rule today", x.notice(), 3);
        due.is("28 told long ago, ended behind the notice ahead", x.noticed(3, 0), 100);
        due.is("28 not told anew", x.noticed(3, 1), -1);
        due.is("43 notices", x.count(6), 4);
    }

    private static void noticeMissed() {
        FathomRoom x = new FathomRoom();
        x.survey(0, 0, 0);
        Due.rule(x, "tell u", 0);
        x.tell(2, 0, 0, 5);
        x.tell(3, 0, 0, 5);
        due.is("28 the doubt alone", x.notice(), 0);
        due.is("28 the doubt alone", x.noticed(0, 1), -1);
        Due.rule(x, "tell dulws", 0);
        due.is("28 told ahead of that notice: missed", x.notice(), -3);
        x.tell(4, 0, 0, 0);
        x.end(2);
        x.end(0);
        x.sound(0, 0, 0, 50);
        due.is("28 told and ended", x.notice(), 1);
        due.is("28 the light told", x.noticed(1, 0), 2);
        due.is("28 the danger ended", x.noticed(1, 1), 100);
        due.is("28 the light ended", x.noticed(1, 2), 102);
        due.is("28 no depth", x.noticed(1, 3), -1);
        x.sound(0, 1, 0, 50);
        x.sound(0, 8, 0, 50);
        x.sound(0, 9, 0, 50);
        due.is("28 depths alone", x.notice(), -3);
        x.strike(1, 0);
        due.is("28 struck", x.notice(), 2);
        due.is("28 the struck", x.noticed(2, 0), 7);
        due.is("28 the doubt", x.noticed(2, 1), 101);
    }

    private static void noticesFull() {
        FathomRoom x = new FathomRoom();
        x.survey(0, 0, 0);
        Due.rule(x, "tell l", 0);
        for (int i = 0; i < 60; i++) {
            x.tell(4, 0, 0, 0);
            due.is("28 notice " + i, x.notice(), i);
            due.is("29 its thing " + i, x.noticed(i, 0), i);
        }
        due.is("28 state ahead of full", x.notice(), -3);
        x.tell(4, 0, 0, 0);
        due.is("28 full", x.notice(), -4);
        due.is("28 full", x.notice(), -4);
        due.is("43 notices", x.count(6), 60);
        due.is("29 none", x.noticed(60, 0), -1);
    }

    // Promise 29
    private static void noticed() {
        FathomRoom x = new FathomRoom();
        x.survey(0, 0, 0);
        Due.rule(x, "tell dulws", 0);
        for (int i = 0; i < 5; i++) {
            x.tell(2, 0, i, 5);
        }
        x.end(3);
        x.end(1);
        x.notice();
        int[] items = {0, 1, 2, 3, 4, 101, 103, -1};
        for (int i = 0; i < items.length; i++) {
            due.is("29 item " + i, x.noticed(0, i), items[i]);
        }
        due.is("29 item -1", x.noticed(0, -1), -1);
        due.is("29 no notice", x.noticed(-1, 0), -1);
        due.is("29 no notice", x.noticed(1, 0), -1);
        due.is("29 greatest", x.noticed(0, Integer.MAX_VALUE), -1);
        due.is("29 least", x.noticed(0, Integer.MIN_VALUE), -1);
    }

    // Promise 30
    private static void late() {
        FathomRoom x = new FathomRoom();
        x.survey(0, 0, 0);
        Due.rule(x, "tell d;late 3", 0);
        x.tell(2, 0, 0, 5);
        x.pass(1);
        x.tell(2, 0, 1, 5);
        x.pass(3);
        x.tell(4, 0, 2, 0);
        due.is("30 none told yet", x.late(), 0);
        x.notice();
        due.is("30 four days, not three", x.late(), 1);
        x.tell(2, 0, 0, 5);
        x.end(0);
        x.pass(3);
        x.notice();
        due.is("30 ended does not count", x.late(), 1);
        x.tell(2, 0, 0, 5);
        x.pass(9);
        due.is("30 not told yet", x.late(), 1);
        Due.rule(x, "tell d", 16);
        x.notice();
        due.is("30 by the rule of its day", x.late(), 1);
        x.tell(2, 0, 0, 5);
        x.pass(1);
        Due.rule(x, "tell d;late 0", 17);
        x.notice();
        due.is("30 one day of none", x.late(), 2);
        x.tell(2, 0, 0, 5);
        x.notice();
        due.is("30 no day of none", x.late(), 2);
        Due.rule(x, "late 2", 4);
        due.is("30 a text in force from an earlier day", x.late(), 4);
    }

    /** Without a CLAUSE: more than 999 DAYS. */
    private static void lateWithoutClause() {
        FathomRoom x = new FathomRoom();
        x.survey(0, 0, 0);
        Due.rule(x, "tell d", 0);
        x.tell(2, 0, 0, 5);
        x.pass(1);
        x.tell(2, 0, 0, 5);
        x.pass(400);
        x.pass(400);
        x.pass(199);
        due.is("30 not told", x.late(), 0);
        x.notice();
        due.is("30 1000 days, not 999", x.late(), 1);
        Due.rule(x, "late 998", 1000);
        due.is("30 999 days, not 998", x.late(), 2);
        Due.rule(x, "late 999", 1000);
        due.is("30 not 999 days", x.late(), 1);
        FathomRoom y = new FathomRoom();
        y.survey(0, 0, 0);
        Due.rule(y, "tell l", 0);
        y.tell(4, 0, 0, 0);
        y.pass(400);
        y.pass(400);
        y.pass(199);
        y.notice();
        due.is("30 999 days", y.late(), 0);
    }

    /** From the DAY on which it was told it is ENDED: it STANDS on none. */
    private static void toldAndEndedOnOneDay() {
        FathomRoom x = new FathomRoom();
        x.survey(0, 0, 0);
        x.sheet(0, 1, 1, 0);
        x.pass(3);
        x.tell(2, 0, 0, 5);
        x.tell(4, 0, 0, 0);
        x.step(0);
        x.edition(0);
        x.copy(0);
        due.is("13 stands", x.water(0, 3, 4), 5);
        due.is("27 stands", x.lights(0), 1);
        due.is("37 stands", x.go(0, 0, 0, 2), 1);
        x.end(0);
        x.end(1);
        x.edition(0);
        due.is("13 on no day", x.water(0, 2, 4), NO);
        due.is("13 on no day", x.water(0, 3, 4), NO);
        due.is("13 on no day", x.water(0, 4, 4), NO);
        due.is("27 not in the edition", x.lights(1), 0);
        due.is("26 not in the edition", x.printed(1, 0), NO);
        due.is("37 not near", x.go(0, 0, 0, 2), 0);
        Due.rule(x, "tell dl", 0);
        x.notice();
        int[] items = {0, 1, 100, 101, -1};
        for (int i = 0; i < items.length; i++) {
            due.is("29 told and ended " + i, x.noticed(0, i), items[i]);
        }
    }
}
