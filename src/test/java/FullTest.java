/** Nothing there yet; everything full, and one more; the last DAY. The number of its promise stands ahead of each. */
public final class FullTest {
    private static final int NONE = -1, STATE = -3, FULL = -4, NO = -1000000, NO_SUCH = -5, NOTHING = -11;
    private static final Due due = new Due("FullTest");

    public static void main(String[] args) {
        nothingYet();
        nothingYetOfWays();
        numbersInTheirOrder();
        fullHouse();
        lastThing();
        fullOfParts();
        fullOfEditions();
        fullOfCorrections();
        fullOfSurveys();
        fullText();
        lastDay();
        due.end();
    }

    // ---- nothing there yet

    private static void nothingYet() {
        House house = new House(due);
        house.ask(8, NONE, "sound", 0, 0, 0, 0);
        house.ask(9, NONE, "line", 0, 0, 0, 0, 0, 0, 1);
        house.ask(10, STATE, "ended");
        for (int kind = 2; kind < 6; kind++) {
            house.ask(11, NONE, "tell", kind, 0, 0, 0);
        }
        house.ask(12, NONE, "move", 0, 0);
        house.ask(13, NONE, "end", 0);
        house.ask(14, NONE, "bare", 0);
        house.ask(15, NONE, "strike", 0, 0);
        for (int what = 0; what < 6; what++) {
            house.ask(16, NO, "of", 0, what);
        }
        house.ask(17, 0, "feed", 0, 0);
        house.ask(18, -10, "rule", 0);
        int[] without = {-1, 999, 0, 0, 999, 210, 0};
        for (int what = 0; what < 7; what++) {
            house.ask(19, without[what], "ruled", 0, what);
            house.ask(19, without[what], "ruled", 9999, what);
        }
        house.ask(20, NONE, "outranks", 0, 1, 0);
        house.ask(23, NO_SUCH, "shown", 0, 0);
        house.ask(24, NO_SUCH, "judge", 0, 0);
        house.ask(25, NONE, "edition", 0);
        house.ask(26, NO, "printed", 0, 0);
        house.ask(27, NONE, "lights", 0);
        house.ask(28, STATE, "notice");
        house.ask(29, NONE, "noticed", 0, 0);
        house.ask(30, 0, "late");
        house.ask(31, NONE, "copy", 0);
        house.ask(32, NONE, "correct", 0, 0);
        house.ask(33, NO, "stood", 0, 0, 0);
        house.ask(34, NO_SUCH, "worse", 0, 0, 0);
        for (int what = 0; what < 12; what++) {
            house.ask(43, 0, "count", what);
        }
        house.ask(3, 0, "survey", 0, 0, 0);
        house.ask(20, NONE, "outranks", 0, 1, 0);
        house.ask(8, 0, "sound", 0, 0, 0, 0);
    }

    private static void nothingYetOfWays() {
        House house = new House(due);
        house.ask(36, 0, "stepless");
        for (int what = 0; what < 4; what++) {
            house.ask(37, NO, "go", 0, 0, 0, what);
        }
        for (int block = 0; block < 12; block++) {
            house.ask(38, 0, "block", block, 0);
            house.ask(38, 7, "block", block, 1);
        }
        for (int what = 0; what < 3; what++) {
            house.ask(39, 0, "plan", 0, what);
            house.ask(39, 0, "plan", 99, what);
            house.ask(40, 0, "act", 0, what, 5);
        }
        house.ask(41, NONE, "trace", 0);
        for (int k = 0; k < 7; k++) {
            house.ask(42, NOTHING, "taken", 0, k);
        }
        for (int tape = 0; tape < 6; tape++) {
            house.ask(45, NOTHING, "item", tape, 0, 0);
            house.ask(46, NO, "read", tape, 0);
            house.ask(47, NOTHING, "blank", tape, 0);
            house.ask(48, NOTHING, "shift", tape, 0, tape, 0, 0);
        }
        for (int cell = 0; cell < 48; cell++) {
            house.ask(6, 0, "tide", cell, 0);
            house.ask(7, 0, "traffic", cell, 0);
            house.ask(5, -1, "gauge", cell, -1);
        }
        for (int gauge = 0; gauge < 4; gauge++) {
            house.ask(4, 1, "part", gauge, 1, 2, 0);
        }
    }

    /** "As they come": each number is the one behind the last. */
    private static void numbersInTheirOrder() {
        House house = new House(due);
        for (int i = 0; i < 3; i++) {
            house.ask(3, i, "survey", 0, 0, 0);
            house.ask(8, 4 * i, "sound", i, 0, 0, i);
            house.ask(11, 4 * i + 1, "tell", 2, i, 0, i);
            house.ask(11, 4 * i + 2, "tell", 5, i, 0, i);
            house.ask(12, 4 * i + 3, "move", 4 * i + 2, 1);
            house.feed("tell d");
            house.ask(18, i, "rule", 0);
            house.ask(22, i, "sheet", i, 1, 1, 0);
            house.ask(25, i, "edition", i);
            house.ask(28, i, "notice");
            house.ask(31, i, "copy", i);
            house.ask(32, i + 1, "correct", i, i);
            house.ask(35, i + 1, "step", i);
            house.ask(4, i + 1, "part", 2, 1, 2, 0);
        }
    }

    // ---- everything full

    private static final int WRECK = 24, DOUBT = 25, DANGERS = 30;

    /** As full as it can be but for THINGS, NOTICES, COPIES and their CORRECTIONS. */
    private static House filled() {
        House house = new House(due);
        for (int i = 0; i < 12; i++) {
            house.ask("survey", 0, 0, 0);
        }
        for (int i = 0; i < 4; i++) {
            house.ask("part", 3, 1, 2, 0);
        }
        house.ask("tape", 0, 3, 8);
        for (int row = 0; row < 3; row++) {
            house.ask("line", row, 8 * row, 0, 0, 0, 0, 8);
        }
        house.ask("tell", 5, 0, 47, 7);
        house.ask("tell", 3, 0, 40, -5);
        int[] corner = {32, 33, 40, 41};
        for (int cell : corner) {
            house.ask("sound", 0, cell, 0, 9);
        }
        for (int i = 0; i < 10; i++) {
            house.rule("tell d", i);
        }
        for (int i = 0; i < 30; i++) {
            house.ask("feed", 0x6e656172, 4);
        }
        for (int i = 0; i < 16; i++) {
            house.ask("sheet", i, 1, 1, 0);
        }
        for (int i = 0; i < 60; i++) {
            house.ask("edition", i % 15);
        }
        return house;
    }

    private static void fullHouse() {
        House house = filled();
        for (int i = DANGERS; i < 89; i++) {
            house.ask("tell", 2, 0, i % 48, 0);
            house.ask("notice");
        }
        for (int i = 0; i < 24; i++) {
            house.ask("copy", i % 15);
        }
        for (int i = 0; i < 99; i++) {
            house.ask("correct", i / 59, i % 59);
        }
        for (int i = 0; i < 20; i++) {
            house.ask("step", i % 2);
        }
        house.ask(11, 89, "tell", 2, 0, 0, 0);
        house.ask(28, 59, "notice");
        house.ask(13, 1, "end", DANGERS);
        oneMore(house);
        int[] counts = {0, 12, 90, 10, 16, 60, 60, 24, 99, 120, 20, 0};
        for (int what = 0; what < 12; what++) {
            house.ask(43, counts[what], "count", what);
        }
        house.ask(29, 89, "noticed", 59, 0);
        house.ask(29, NONE, "noticed", 59, 1);
        house.ask(36, 20, "stepless");
        house.ask(35, 1, "step", 47);
    }

    private static void oneMore(House house) {
        house.ask(3, FULL, "survey", 0, 0, 0);
        house.ask(4, FULL, "part", 3, 1, 2, 0);
        house.ask(8, FULL, "sound", 0, 0, 0, 0);
        house.ask(9, 0, "line", 0, 0, 0, 0, 0, 0, 8);
        house.ask(10, 5, "ended");
        for (int kind = 2; kind < 6; kind++) {
            house.ask(11, FULL, "tell", kind, 0, 0, 0);
        }
        house.ask(12, FULL, "move", WRECK, 0);
        house.ask(12, -1, "of", WRECK, 5);
        house.ask(14, 0, "bare", DOUBT);
        house.ask(15, FULL, "strike", DOUBT, 0);
        house.ask(15, -1, "of", DOUBT, 5);
        house.ask(17, FULL, "feed", 0, 1);
        house.ask(17, 120, "feed", 0, 0);
        house.ask(18, FULL, "rule", 0);
        house.ask(22, FULL, "sheet", 0, 1, 1, 0);
        house.ask(25, FULL, "edition", 0);
        house.ask(28, FULL, "notice");
        house.ask(29, NONE, "noticed", 60, 0);
        house.ask(31, FULL, "copy", 0);
        house.ask(31, STATE, "copy", 15);
        house.ask(32, FULL, "correct", 1, 59);
        house.ask(32, STATE, "correct", 1, 39);
        house.ask(32, NONE, "correct", 1, 60);
        house.ask(35, FULL, "step", 0);
    }

    /** The 90th THING: a sounding, a told one, a moved WRECK, a STRUCK, one of a LINE. */
    private static void lastThing() {
        for (int last = 0; last < 5; last++) {
            House house = new House(due);
            house.ask("survey", 0, 0, 0);
            house.ask("tell", 5, 0, 47, 7);
            house.ask("tell", 3, 0, 0, 5);
            int[] corner = {0, 1, 8, 9};
            for (int cell : corner) {
                house.ask("sound", 0, cell, 0, 30);
            }
            for (int i = 6; i < 89; i++) {
                house.ask(11, i, "tell", 4, 0, i % 48, 0);
            }
            house.ask("tape", 0, 3, 8);
            switch (last) {
                case 0:
                    house.ask(8, 89, "sound", 0, 20, 0, 9);
                    house.ask(16, 9, "of", 89, 3);
                    break;
                case 1:
                    house.ask(11, 89, "tell", 2, 0, 20, 9);
                    house.ask(16, 2, "of", 89, 0);
                    break;
                case 2:
                    house.ask(12, 89, "move", 0, 20);
                    house.ask(16, 0, "of", 0, 5);
                    house.ask(12, FULL, "move", 89, 21);
                    house.ask(16, -1, "of", 89, 5);
                    break;
                case 3:
                    house.ask(15, 89, "strike", 1, 0);
                    house.ask(15, STATE, "strike", 1, 0);
                    break;
                default:
                    house.ask(9, 1, "line", 0, 20, 0, 0, 0, 0, 8);
                    house.ask(10, 5, "ended");
                    house.ask(16, 20, "of", 89, 1);
                    // Of several at one number the least: beyond the sea, and no room.
                    house.ask("blank", 0, 0);
                    house.ask(9, 0, "line", 0, 7, 0, 0, 0, 0, 2);
                    house.ask(10, 3, "ended");
                    // Nothing there, and no room; no such place, and no room.
                    house.ask(9, 0, "line", 0, 7, 0, 0, 1, 0, 2);
                    house.ask(10, 1, "ended");
                    house.ask(9, 0, "line", 0, 7, 0, 0, 0, 8, 2);
                    house.ask(10, 2, "ended");
            }
            house.ask(43, 90, "count", 2);
            house.ask(8, FULL, "sound", 0, 20, 0, 9);
            house.ask(11, FULL, "tell", 4, 0, 20, 0);
            house.ask(13, 1, "end", 88);
        }
    }

    private static void fullOfParts() {
        House house = new House(due);
        for (int gauge = 0; gauge < 4; gauge++) {
            house.ask(5, -1, "gauge", gauge, gauge);
            for (int i = 1; i <= 4; i++) {
                house.ask(4, i, "part", gauge, 30, 2, gauge);
            }
        }
        for (int gauge = 0; gauge < 4; gauge++) {
            house.ask(4, FULL, "part", gauge, 29, 3, 1);
        }
        for (int gauge = 0; gauge < 4; gauge++) {
            house.ask(6, gauge % 2 == 0 ? 120 : 0, "tide", gauge, 0);
            house.ask(6, gauge % 2 == 0 ? 0 : 120, "tide", gauge, 99999);
        }
    }

    /** What an EDITION or a COPY too many is not, and what the last ones are. */
    private static void fullOfEditions() {
        House house = new House(due);
        house.ask("survey", 0, 0, 0);
        for (int i = 0; i < 16; i++) {
            house.ask(22, i, "sheet", 0, 1, 1, 0);
        }
        house.ask("sound", 0, 0, 0, 20);
        for (int i = 0; i < 60; i++) {
            house.ask(25, i, "edition", 15);
        }
        house.ask(22, FULL, "sheet", 1, 1, 1, 0);
        house.ask("sound", 0, 0, 0, 10);
        house.ask(25, FULL, "edition", 15);
        house.ask(25, FULL, "edition", 0);
        house.ask(31, STATE, "copy", 0);
        house.ask(26, 20, "printed", 59, 0);
        house.ask(26, NO, "printed", 60, 0);
        house.ask(23, 1, "shown", 15, 0);
        for (int i = 0; i < 24; i++) {
            house.ask(31, i, "copy", 15);
        }
        house.ask(31, FULL, "copy", 15);
        house.ask(33, 20, "stood", 23, 0, 0);
        house.ask(33, NO, "stood", 24, 0, 0);
        house.ask(34, 1, "worse", 23, 0, 0);
        house.ask(34, NO_SUCH, "worse", 24, 0, 0);
    }

    /** A COPY that is refused its CORRECTION stays as it was. */
    private static void fullOfCorrections() {
        House house = new House(due);
        house.ask("survey", 0, 0, 0);
        house.ask("sheet", 0, 1, 1, 0);
        house.ask("edition", 0);
        house.ask("copy", 0);
        house.ask("copy", 0);
        house.rule("tell d", 0);
        for (int i = 0; i < 50; i++) {
            house.ask("tell", 2, 0, 0, 100 - i);
            house.ask(28, i, "notice");
        }
        for (int i = 0; i < 99; i++) {
            house.ask(32, i + 1, "correct", i / 50, i % 50);
        }
        for (int twice = 0; twice < 2; twice++) {
            house.ask(32, FULL, "correct", 1, 49);
            house.ask(33, 52, "stood", 1, 0, 0);
        }
        house.ask(32, STATE, "correct", 1, 48);
        house.ask(32, STATE, "correct", 0, 49);
        house.ask(33, 51, "stood", 0, 0, 0);
        house.ask(34, 1, "worse", 1, 0, 0);
        house.ask(34, 0, "worse", 0, 0, 0);
    }

    /** 12 SURVEYS in one CELL, in each way that they may quarrel. */
    private static void fullOfSurveys() {
        House house = new House(due);
        for (int i = 0; i < 12; i++) {
            house.ask(3, i, "survey", i % 3, 100 + i, 0);
            house.ask(8, i, "sound", i, 9, 0, 50 - i);
        }
        // Of the rank ewl the ECHO of the greatest YEAR.
        house.ask(21, 11, "water", 9, 0, 3);
        house.ask(21, 39, "water", 9, 0, 0);
        house.ask(21, 11, "water", 9, 0, 1);
        house.ask(21, 11, "water", 9, 0, 2);
        house.rule("rank lwe", 1);
        house.ask(21, 9, "water", 9, 1, 3);
        house.ask(21, 39, "water", 9, 1, 0);
        house.rule("rank wle;year 11", 2);
        house.ask(21, 10, "water", 9, 2, 3);
        house.ask(21, 11, "water", 9, 2, 2);
        // Each outranks by year: the latest of all.
        house.rule("rank lwe;year 1", 3);
        house.ask(21, 11, "water", 9, 3, 3);
    }

    /** THE TEXT holds 120 bytes; eight CLAUSES of the longest kind take 87. */
    private static void fullText() {
        StringBuilder longest = new StringBuilder("tell dulws");
        for (int i = 1; i < 8; i++) {
            longest.append(";tell swlud");
        }
        House house = new House(due);
        house.feed(longest.toString());
        house.ask(17, 87, "count", 9);
        house.ask(18, 0, "rule", 0);
        house.ask(19, 124, "ruled", 0, 6);
        longest.append(";tell dulws;tell dulws;tell dulws");
        house.feed(longest.toString());
        house.ask(17, 120, "count", 9);
        house.ask(17, FULL, "feed", 0, 1);
        house.ask(17, FULL, "feed", 0, 4);
        house.ask(18, -97, "rule", 0);
        house.ask(17, 0, "count", 9);
        house.feed(longest.toString().substring(0, 118));
        house.ask(17, FULL, "feed", 0x3b3b3b3b, 3);
        house.ask(17, 118, "count", 9);
        house.ask(17, 120, "feed", 0x3b3b3b3b, 2);
        house.ask(18, -97, "rule", 9999);
        house.ask(43, 1, "count", 3);
    }

    // ---- the last DAY

    private static void lastDay() {
        House house = new House(due);
        house.ask("survey", 0, 0, 0);
        house.ask("sound", 0, 0, 0, 20);
        house.ask("sheet", 0, 1, 1, 0);
        house.ask("edition", 0);
        house.ask("copy", 0);
        house.rule("tell dw", 9999);
        house.ask("tell", 2, 0, 0, 10);
        for (int i = 0; i < 24; i++) {
            house.ask(2, 400 * (i + 1), "pass", 400);
        }
        house.ask(2, -2, "pass", 400);
        house.ask(28, STATE, "notice");
        house.ask(2, 9999, "pass", 399);
        house.ask(2, -2, "pass", 1);
        house.ask(43, 9999, "count", 0);
        house.ask(34, 100, "worse", 0, 0, 9999);
        house.ask(34, NO_SUCH, "worse", 0, 0, 10000);
        house.ask(11, 2, "tell", 5, 0, 0, 9);
        house.ask(16, 9999, "of", 2, 4);
        house.ask(21, 9, "water", 0, 9999, 4);
        house.ask(21, 10, "water", 0, 9998, 4);
        house.ask(28, 0, "notice");
        // 9999 DAYS for the DANGER, and none for the WRECK.
        house.ask(30, 1, "late");
        house.ask(32, 1, "correct", 0, 0);
        house.ask(33, 9, "stood", 0, 0, 9999);
        house.ask(33, 20, "stood", 0, 0, 9998);
        house.ask(34, 99, "worse", 0, 0, 9999);
        house.ask(12, 3, "move", 2, 1);
        house.ask(16, 9999, "of", 2, 5);
        house.ask(21, 10, "water", 0, 9999, 4);
        house.ask(21, 9, "water", 1, 9999, 4);
        house.ask(13, 1, "end", 1);
        house.ask(21, 20, "water", 0, 9999, 4);
        house.ask(21, 10, "water", 0, 9998, 4);
    }
}
