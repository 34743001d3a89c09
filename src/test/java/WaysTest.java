/** Promises 35 to 39: ways of ships, blocks, the plan. */
public final class WaysTest {
    private static final int NO = -1000000;
    private static final Due due = new Due("WaysTest");

    public static void main(String[] args) {
        step();
        stepless();
        goRefused();
        goSpare();
        goByCorrections();
        goNear();
        block();
        blockByDays();
        plan();
        planTies();
        due.end();
    }

    // Promise 35
    private static void step() {
        FathomRoom x = new FathomRoom();
        due.is("35 no cell", x.step(-1), -1);
        due.is("35 no cell", x.step(48), -1);
        due.is("35 any cell first", x.step(18), 1);
        due.is("35 the same", x.step(18), -2);
        due.is("35 too far", x.step(20), -2);
        due.is("35 too far", x.step(34), -2);
        due.is("35 none ahead of bad", x.step(-1), -1);
        int[] fine = {9, 18, 10, 18, 11, 18, 17, 18, 19, 18, 25, 18, 26, 18, 27};
        for (int i = 0; i < fine.length; i++) {
            due.is("35 step to " + fine[i], x.step(fine[i]), i + 2);
        }
        due.is("35 not over the edge", x.stepless(), 16);
        x.step(7);
        due.is("35 not over the edge", x.step(8), -2);
        due.is("35 not over the edge", x.step(0), -2);
        for (int i = 2; i <= 20; i++) {
            due.is("35 step " + i, x.step(i % 2 == 0 ? 15 : 7), i);
        }
        due.is("35 bad ahead of full", x.step(15), -2);
        due.is("35 full", x.step(7), -4);
        due.is("43 the way", x.count(10), 20);
    }

    // Promise 36
    private static void stepless() {
        FathomRoom x = new FathomRoom();
        due.is("36 none", x.stepless(), 0);
        x.step(0);
        x.step(1);
        due.is("36 two", x.stepless(), 2);
        due.is("36 none", x.stepless(), 0);
        due.is("36 anywhere", x.step(40), 1);
    }

    private static FathomRoom room() {
        FathomRoom x = new FathomRoom();
        x.survey(0, 0, 0);
        x.sheet(0, 2, 3, 0);
        x.sound(0, 0, 0, 20);
        x.sound(0, 1, 0, 15);
        x.sound(0, 2, 0, 15);
        x.edition(0);
        x.copy(0);
        return x;
    }

    // Promise 37
    private static void goRefused() {
        FathomRoom x = room();
        for (int what = 0; what < 4; what++) {
            due.is("37 an empty way " + what, x.go(0, 0, 0, what), NO);
        }
        x.step(0);
        due.is("37 no copy", x.go(-1, 0, 0, 0), NO);
        due.is("37 no copy", x.go(1, 0, 0, 0), NO);
        due.is("37 no what", x.go(0, 0, 0, -1), NO);
        due.is("37 no what", x.go(0, 0, 0, 4), NO);
        due.is("37 draught -1", x.go(0, -1, 0, 0), NO);
        due.is("37 draught 100", x.go(0, 100, 0, 0), NO);
        due.is("37 hour -1", x.go(0, 0, -1, 2), NO);
        due.is("37 hour 99001", x.go(0, 0, 99001, 2), NO);
        due.is("37 hour 99000", x.go(0, 0, 99000, 0), 20);
        due.is("37 draught 99", x.go(0, 99, 0, 0), -79);
        x.stepless();
        due.is("37 empty again", x.go(0, 0, 0, 0), NO);
    }

    private static void goSpare() {
        FathomRoom x = room();
        x.step(3);
        due.is("37 off the sheet", x.go(0, 30, 0, 0), 969);
        x.step(2);
        x.step(1);
        x.step(0);
        x.step(8);
        due.is("37 least", x.go(0, 16, 0, 0), -1);
        due.is("37 the first cell", x.go(0, 16, 0, 1), 1);
        due.is("37 below 0", x.go(0, 16, 0, 3), 2);
        due.is("37 not below 0", x.go(0, 15, 0, 3), 0);
        due.is("37 below 0", x.go(0, 21, 0, 3), 3);
        // Tides 12, 6, 0, 6 from hour 0 on in the cells of the way.
        x.part(0, 12, 4, 0);
        x.gauge(1, 0);
        x.gauge(2, 0);
        x.gauge(3, 0);
        due.is("37 with tide", x.go(0, 16, 0, 0), -1);
        due.is("37 with tide, where", x.go(0, 16, 0, 1), 2);
        due.is("37 with tide, how many", x.go(0, 16, 0, 3), 1);
        due.is("37 an hour later", x.go(0, 16, 1, 1), 1);
        due.is("37 three hours later", x.go(0, 16, 3, 0), 4);
        due.is("37 three hours later, where", x.go(0, 16, 3, 1), 3);
        x.step(9);
        x.step(1);
        // Cell 1 at hours 2 and 6 has no tide.
        due.is("37 a cell twice", x.go(0, 16, 0, 3), 2);
        x.sound(0, 0, 0, 1);
        due.is("37 by the copy alone", x.go(0, 16, 0, 0), -1);
    }

    private static void goByCorrections() {
        FathomRoom x = room();
        Due.rule(x, "tell d", 0);
        x.step(0);
        x.step(8);
        x.pass(3);
        x.tell(2, 0, 8, 5);
        x.notice();
        due.is("37 not corrected", x.go(0, 10, 0, 0), 10);
        x.correct(0, 0);
        due.is("37 corrected today", x.go(0, 10, 0, 0), -5);
        due.is("37 corrected today, where", x.go(0, 10, 0, 1), 1);
    }

    private static void goNear() {
        FathomRoom x = room();
        x.step(10);
        x.step(11);
        due.is("37 none near", x.go(0, 0, 0, 2), 0);
        x.tell(2, 0, 1, 0);
        x.tell(3, 0, 20, 0);
        x.tell(5, 0, 11, 0);
        x.tell(4, 0, 2, 0);
        due.is("37 near", x.go(0, 0, 0, 2), 3);
        x.tell(2, 0, 11, 0);
        due.is("37 each once", x.go(0, 0, 0, 2), 3);
        x.tell(2, 0, 21, 0);
        x.tell(2, 0, 0, 0);
        x.tell(2, 0, 26, 0);
        due.is("37 not so far", x.go(0, 0, 0, 2), 3);
        x.tell(3, 0, 9, 0);
        due.is("37 one more", x.go(0, 0, 0, 2), 4);
        x.end(3);
        due.is("37 ended", x.go(0, 0, 0, 2), 3);
        x.stepless();
        x.step(15);
        x.tell(2, 0, 16, 0);
        due.is("37 not over the edge", x.go(0, 0, 0, 2), 0);
        x.stepless();
        x.step(9);
        due.is("37 near the first cell of the sea", x.go(0, 0, 0, 2), 3);
        x.stepless();
        x.step(15);
        x.step(23);
        x.tell(2, 0, 31, 0);
        due.is("37 from any of the way", x.go(0, 0, 0, 2), 1);
    }

    // Promise 38
    private static void block() {
        FathomRoom x = new FathomRoom();
        x.survey(0, 0, 0);
        due.is("38 no block", x.block(-1, 0), -1);
        due.is("38 no block", x.block(12, 0), -1);
        due.is("38 no what", x.block(0, -1), -1);
        due.is("38 no what", x.block(0, 2), -1);
        for (int block = 0; block < 12; block++) {
            due.is("38 no risk", x.block(block, 0), 0);
            due.is("38 no water at all", x.block(block, 1), 7);
        }
        x.traffic(0, 1);
        x.traffic(1, 2);
        x.traffic(8, 3);
        x.traffic(9, 4);
        x.traffic(2, 50);
        x.traffic(16, 60);
        x.traffic(47, 9);
        due.is("38 without water", x.block(0, 0), 10);
        due.is("38 of another", x.block(1, 0), 50);
        due.is("38 of another", x.block(4, 0), 60);
        due.is("38 the last", x.block(11, 0), 9);
        x.tell(3, 0, 9, 5);
        x.tell(3, 0, 9, 5);
        x.tell(3, 0, 8, 5);
        x.tell(2, 0, 0, 5);
        x.tell(5, 0, 0, 5);
        due.is("38 with doubts", x.block(0, 0), 10 + 8 + 3);
        due.is("38 a danger is no water", x.block(0, 1), 7);
        x.sound(0, 9, 0, 9);
        due.is("38 with water", x.block(0, 0), 1 + 2 + 6 + 8);
        due.is("38 cost", x.block(0, 1), 6);
        x.sound(0, 0, 0, 9);
        x.sound(0, 1, 0, 9);
        x.sound(0, 8, 0, 9);
        due.is("38 with water", x.block(0, 0), 3 + 8);
        due.is("38 cost", x.block(0, 1), 3);
    }

    private static void blockByDays() {
        FathomRoom x = new FathomRoom();
        x.survey(0, 0, 0);
        x.traffic(0, 10);
        x.tell(3, 0, 0, 5);
        due.is("38 a doubt", x.block(0, 0), 20);
        int[] corner = {0, 1, 8, 9};
        for (int cell : corner) {
            x.sound(0, cell, 0, 30);
        }
        due.is("38 sounded", x.block(0, 0), 10);
        x.pass(1);
        x.strike(0, 0);
        due.is("38 struck", x.block(0, 0), 0);
        // RISK counts a CELL's own TRAFFIC: cells 6, 7, 14, 15 are of block 3.
        x.traffic(15, 4);
        x.traffic(6, 2);
        due.is("38 block 3", x.block(3, 0), 6);
    }

    // Promise 39
    private static void plan() {
        FathomRoom x = new FathomRoom();
        x.survey(0, 0, 0);
        due.is("39 days -1", x.plan(-1, 0), -5);
        due.is("39 days 100", x.plan(100, 0), -5);
        due.is("39 no what", x.plan(10, -1), -5);
        due.is("39 no what", x.plan(10, 3), -5);
        for (int what = 0; what < 3; what++) {
            due.is("39 nothing to sound " + what, x.plan(99, what), 0);
        }
        x.traffic(0, 10);
        x.traffic(2, 9);
        x.traffic(4, 8);
        x.traffic(47, 1);
        due.is("39 none so cheap", x.plan(6, 2), 0);
        due.is("39 one", x.plan(7, 2), 1);
        due.is("39 one", x.plan(13, 0), 10);
        due.is("39 two", x.plan(14, 2), 3);
        due.is("39 two", x.plan(20, 0), 19);
        due.is("39 all", x.plan(28, 2), 1 | 2 | 4 | 2048);
        due.is("39 all: risk", x.plan(99, 0), 28);
        due.is("39 all: cost", x.plan(99, 1), 28);
        // Block 1 and 2 become as cheap as 3 and 4 together with a doubt each.
        int[] cells = {2, 3, 10, 11, 4, 5, 12};
        for (int cell : cells) {
            x.sound(0, cell, 0, 9);
        }
        x.tell(3, 0, 2, 5);
        x.tell(3, 0, 4, 5);
        due.is("39 two cheap ones for a dear one", x.plan(7, 2), 2 | 4);
        due.is("39 their risk", x.plan(7, 0), 17);
        due.is("39 their cost", x.plan(7, 1), 7);
        due.is("39 one dear and one cheap one", x.plan(10, 2), 1 | 2);
        due.is("39 three", x.plan(14, 2), 1 | 2 | 4);
        due.is("39 without days", x.plan(0, 2), 0);
    }

    private static void planTies() {
        FathomRoom x = new FathomRoom();
        x.survey(0, 0, 0);
        x.traffic(0, 5);
        x.traffic(2, 5);
        x.traffic(4, 5);
        due.is("39 alike: the least bits", x.plan(7, 2), 1);
        due.is("39 alike: the least bits", x.plan(14, 2), 3);
        // Block 1 has the same risk for less cost.
        x.sound(0, 3, 0, 9);
        due.is("39 the least cost", x.plan(7, 2), 2);
        due.is("39 the least cost", x.plan(7, 1), 6);
        due.is("39 the least cost of two", x.plan(14, 2), 3);
        x.traffic(4, 10);
        due.is("39 one for as much as two", x.plan(13, 2), 2 | 4);
        x.traffic(6, 5);
        due.is("39 one of 10 or two of 5", x.plan(12, 2), 4);
    }
}
