/** Promises 1 to 7: a new object, days, surveys, gauges and tides, traffic. */
public final class SeaTest {
    private static final Due due = new Due("SeaTest");

    public static void main(String[] args) {
        constants();
        newObject();
        pass();
        survey();
        part();
        gauge();
        tide();
        tidesOfSeveralParts();
        traffic();
        due.end();
    }

    private static void constants() {
        due.is("NONE", FathomRoom.NONE, -1);
        due.is("BAD", FathomRoom.BAD, -2);
        due.is("STATE", FathomRoom.STATE, -3);
        due.is("FULL", FathomRoom.FULL, -4);
        due.is("NO", FathomRoom.NO, -1000000);
    }

    // Promise 1
    private static void newObject() {
        FathomRoom x = new FathomRoom();
        for (int what = 0; what <= 11; what++) {
            due.is("1 count " + what, x.count(what), 0);
        }
        due.is("1 ended", x.ended(), -3);
        due.is("1 trace", x.trace(0), -1);
        due.is("1 late", x.late(), 0);
        for (int cell = 0; cell < 48; cell++) {
            due.is("1 tide of " + cell, x.tide(cell, 7), 0);
            due.is("1 gauge of " + cell, x.gauge(cell, -1), -1);
            due.is("1 traffic of " + cell, x.traffic(cell, 0), 0);
            due.is("1 water of " + cell, x.water(cell, 0, 4), -1000000);
        }
        for (int tape = 0; tape < 6; tape++) {
            due.is("1 tape " + tape, x.item(tape, 0, 0), -11);
        }
    }

    // Promise 2
    private static void pass() {
        FathomRoom x = new FathomRoom();
        due.is("2 pass(0)", x.pass(0), -2);
        due.is("2 pass(-1)", x.pass(-1), -2);
        due.is("2 pass(401)", x.pass(401), -2);
        due.is("2 count(0)", x.count(0), 0);
        due.is("2 pass(1)", x.pass(1), 1);
        due.is("2 pass(400)", x.pass(400), 401);
        for (int i = 0; i < 23; i++) {
            x.pass(400);
        }
        due.is("2 count(0)", x.count(0), 9601);
        due.is("2 pass(399) beyond", x.pass(399), -2);
        due.is("2 count(0) unchanged", x.count(0), 9601);
        due.is("2 pass(398)", x.pass(398), 9999);
        due.is("2 pass(1) beyond", x.pass(1), -2);
    }

    // Promise 3
    private static void survey() {
        FathomRoom x = new FathomRoom();
        int[][] bad = {{-1, 0, 0}, {3, 0, 0}, {0, -1, 0}, {0, 1000, 0}, {0, 0, -1}, {0, 0, 10}};
        for (int[] b : bad) {
            due.is("3 bad survey", x.survey(b[0], b[1], b[2]), -2);
        }
        due.is("3 survey(0, 0, 0)", x.survey(0, 0, 0), 0);
        due.is("3 survey(2, 999, 9)", x.survey(2, 999, 9), 1);
        for (int i = 2; i < 12; i++) {
            due.is("3 survey " + i, x.survey(1, 5, 1), i);
        }
        due.is("3 bad ahead of full", x.survey(3, 0, 0), -2);
        due.is("3 full", x.survey(0, 0, 0), -4);
        due.is("3 count(1)", x.count(1), 12);
    }

    // Promise 4
    private static void part() {
        FathomRoom x = new FathomRoom();
        due.is("4 no gauge -1", x.part(-1, 1, 2, 0), -1);
        due.is("4 no gauge 4", x.part(4, 1, 2, 0), -1);
        due.is("4 none ahead of bad", x.part(4, 0, 0, 0), -1);
        int[][] bad = {{0, 2, 0}, {31, 2, 0}, {1, 1, 0}, {1, 41, 0}, {1, 2, -1}, {1, 2, 40}};
        for (int[] b : bad) {
            due.is("4 bad part", x.part(0, b[0], b[1], b[2]), -2);
        }
        due.is("4 first", x.part(3, 1, 2, 0), 1);
        due.is("4 second", x.part(3, 30, 40, 39), 2);
        due.is("4 of another", x.part(2, 1, 2, 0), 1);
        due.is("4 third", x.part(3, 1, 2, 0), 3);
        due.is("4 fourth", x.part(3, 1, 2, 0), 4);
        due.is("4 bad ahead of full", x.part(3, 0, 2, 0), -2);
        due.is("4 full", x.part(3, 1, 2, 0), -4);
        due.is("4 second of another", x.part(2, 1, 2, 0), 2);
    }

    // Promise 5
    private static void gauge() {
        FathomRoom x = new FathomRoom();
        due.is("5 no cell -1", x.gauge(-1, 0), -5);
        due.is("5 no cell 48", x.gauge(48, 0), -5);
        due.is("5 no gauge -2", x.gauge(0, -2), -5);
        due.is("5 no gauge 4", x.gauge(0, 4), -5);
        due.is("5 first", x.gauge(0, 3), -1);
        due.is("5 then", x.gauge(0, 0), 3);
        due.is("5 off", x.gauge(0, -1), 0);
        due.is("5 on", x.gauge(0, 1), -1);
        due.is("5 the last cell", x.gauge(47, 2), -1);
        due.is("5 its own", x.gauge(47, 2), 2);
    }

    // Promise 6
    private static void tide() {
        FathomRoom x = new FathomRoom();
        x.part(1, 10, 8, 0);
        x.gauge(5, 1);
        // twice 0 is 8 off from 8: 10 * 8 / 8; twice 1 is 6 off: 60 / 8; twice 4 none; twice 7 is 6 off.
        int[] due8 = {10, 7, 5, 2, 0, 2, 5, 7};
        for (int hour = 0; hour < 16; hour++) {
            due.is("6 tide at " + hour, x.tide(5, hour), due8[hour % 8]);
        }
        due.is("6 tide at 99999", x.tide(5, 99999), due8[7]);
        due.is("6 no hour -1", x.tide(5, -1), -1000000);
        due.is("6 no hour 100000", x.tide(5, 100000), -1000000);
        due.is("6 no cell -1", x.tide(-1, 0), -1000000);
        due.is("6 no cell 48", x.tide(48, 0), -1000000);
        due.is("6 no gauge there", x.tide(6, 0), 0);
        x.gauge(6, 0);
        due.is("6 gauge without parts", x.tide(6, 0), 0);
        x.gauge(5, -1);
        due.is("6 gauge off", x.tide(5, 0), 0);
    }

    private static void tidesOfSeveralParts() {
        FathomRoom x = new FathomRoom();
        x.gauge(47, 2);
        // (0 + 39) mod 40 = 39, 78 is 38 from 40: 30 * 38 / 40 = 28.5, cut: 28
        x.part(2, 30, 40, 39);
        due.is("6 one part", x.tide(47, 0), 28);
        // (0 + 2) mod 7 = 2, 4 is 3 from 7: 3 * 3 / 7 = 1.28, cut: 1
        x.part(2, 3, 7, 2);
        due.is("6 two parts", x.tide(47, 0), 29);
        // (0 + 39) mod 2 = 1, 2 is 0 from 2
        x.part(2, 30, 2, 39);
        due.is("6 three parts", x.tide(47, 0), 29);
        // (0 + 3) mod 5 = 3, 6 is 1 from 5: 4 * 1 / 5 = 0.8: each part is cut by itself
        x.part(2, 4, 5, 3);
        due.is("6 four parts, each cut", x.tide(47, 0), 29);
        due.is("6 an hour later", x.tide(47, 1), 30 + 3 * 1 / 7 + 30 * 2 / 2 + 4 * 3 / 5);
    }

    // Promise 7
    private static void traffic() {
        FathomRoom x = new FathomRoom();
        due.is("7 no cell -1", x.traffic(-1, 0), -1);
        due.is("7 no cell 48", x.traffic(48, 0), -1);
        due.is("7 none ahead of bad", x.traffic(48, 100), -1);
        due.is("7 bad -1", x.traffic(0, -1), -2);
        due.is("7 bad 100", x.traffic(0, 100), -2);
        due.is("7 first", x.traffic(0, 99), 0);
        due.is("7 then", x.traffic(0, 1), 99);
        due.is("7 another", x.traffic(47, 5), 0);
        due.is("7 bad changes nothing", x.traffic(0, 100), -2);
        due.is("7 still", x.traffic(0, 0), 1);
    }
}
