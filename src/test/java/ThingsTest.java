/** Promises 8 to 16: soundings, lines, dangers told, moved, ended and struck. */
public final class ThingsTest {
    private static final Due due = new Due("ThingsTest");

    public static void main(String[] args) {
        sound();
        soundWithTide();
        line();
        lineEnds();
        lineRefused();
        lineBlanks();
        lineTides();
        lineOfFarNumbers();
        lineOfALongRow();
        tell();
        move();
        end();
        bare();
        bareBySpan();
        bareAtTheEdge();
        strike();
        full();
        of();
        due.end();
    }

    private static FathomRoom room() {
        FathomRoom x = new FathomRoom();
        x.survey(0, 10, 0);
        x.survey(1, 20, 1);
        return x;
    }

    // Promise 8
    private static void sound() {
        FathomRoom x = room();
        due.is("8 no survey -1", x.sound(-1, 0, 0, 0), -1);
        due.is("8 no survey 2", x.sound(2, 0, 0, 0), -1);
        due.is("8 no cell -1", x.sound(0, -1, 0, 0), -1);
        due.is("8 no cell 48", x.sound(0, 48, 0, 0), -1);
        due.is("8 none ahead of bad", x.sound(0, 48, -1, 0), -1);
        due.is("8 hour -1", x.sound(0, 0, -1, 0), -2);
        due.is("8 hour 100000", x.sound(0, 0, 100000, 0), -2);
        due.is("8 feet -1", x.sound(0, 0, 0, -1), -2);
        due.is("8 feet 1000", x.sound(0, 0, 0, 1000), -2);
        due.is("8 nothing told", x.count(2), 0);
        due.is("8 first", x.sound(0, 47, 99999, 999), 0);
        due.is("8 second", x.sound(1, 0, 0, 0), 1);
        int[] whats = {1, 47, 0, 999, 0, -1};
        for (int what = 0; what < 6; what++) {
            due.is("8 of(0, " + what + ")", x.of(0, what), whats[what]);
        }
        due.is("8 of(1, 2)", x.of(1, 2), 1);
    }

    private static void soundWithTide() {
        FathomRoom x = room();
        x.gauge(3, 0);
        // At hours 0, 2, ..: 30 each; at 1, 3, ..: 0.
        for (int i = 0; i < 4; i++) {
            x.part(0, 30, 2, 0);
        }
        due.is("8 tide", x.tide(3, 0), 120);
        due.is("8 feet -100", x.sound(0, 3, 0, 20), -2);
        due.is("8 feet -99", x.sound(0, 3, 0, 21), 0);
        due.is("8 its feet", x.of(0, 3), -99);
        due.is("8 at another hour", x.sound(0, 3, 1, 20), 1);
        due.is("8 its feet", x.of(1, 3), 20);
        due.is("8 999 with tide", x.sound(0, 3, 2, 999), 2);
        due.is("8 its feet", x.of(2, 3), 879);
        due.is("8 1000 with tide", x.sound(0, 3, 2, 1000), -2);
    }

    private static void reals(FathomRoom x, int tape, int... eighths) {
        x.tape(tape, 3, eighths.length);
        for (int i = 0; i < eighths.length; i++) {
            x.item(tape, i, eighths[i]);
        }
    }

    // Promises 9 and 10
    private static void line() {
        FathomRoom x = room();
        reals(x, 0, 80, 87, 88, -1, -8, -9);
        x.pass(3);
        due.is("9 right", x.line(1, 16, 0, 0, 0, 0, 6), 6);
        due.is("10 all came", x.ended(), 0);
        // 10, 10.875, 11, -0.125, -1, -1.125: not above each
        int[] feet = {10, 10, 11, -1, -1, -2};
        for (int i = 0; i < 6; i++) {
            due.is("9 its feet " + i, x.of(i, 3), feet[i]);
            due.is("9 its cell " + i, x.of(i, 1), 16 + i);
            due.is("9 its survey " + i, x.of(i, 2), 1);
            due.is("9 its day " + i, x.of(i, 4), 3);
            due.is("9 its kind " + i, x.of(i, 0), 1);
        }
        due.is("9 down from place 2", x.line(0, 1, 1, 0, 0, 2, 3), 3);
        due.is("9 down", x.of(8, 1), 17);
        due.is("9 down, its feet", x.of(6, 3), 11);
        due.is("9 left", x.line(0, 47, 2, 0, 0, 0, 2), 2);
        due.is("9 left", x.of(10, 1), 46);
        due.is("9 up", x.line(0, 47, 3, 0, 0, 0, 2), 2);
        due.is("9 up", x.of(12, 1), 39);
        due.is("9 to the first cell", x.line(0, 16, 3, 0, 0, 0, 3), 3);
        due.is("9 to the first cell", x.of(15, 1), 0);
        due.is("9 to the last cell", x.line(0, 45, 0, 0, 0, 0, 3), 3);
        due.is("9 to the last cell", x.of(18, 1), 47);
        due.is("9 one", x.line(0, 47, 0, 0, 0, 5, 1), 1);
        due.is("10 one", x.ended(), 0);
        due.is("9 48 long", x.line(0, 0, 0, 0, 0, 0, 48), 6);
        due.is("10 the row ends", x.ended(), 2);
    }

    private static void lineEnds() {
        FathomRoom x = room();
        due.is("10 none yet", x.ended(), -3);
        due.is("9 nothing there", x.line(0, 0, 0, 0, 5, 0, 1), 0);
        due.is("10 nothing", x.ended(), 1);
        reals(x, 0, 8, 16, 24, 32, 7992, 8000, -792, -793);
        due.is("9 place -1", x.line(0, 0, 0, 0, 0, -1, 3), 0);
        due.is("10 place", x.ended(), 2);
        due.is("9 place 8", x.line(0, 0, 0, 0, 0, 8, 3), 0);
        due.is("10 place", x.ended(), 2);
        due.is("9 place of all", x.line(0, 0, 0, 0, 0, Integer.MAX_VALUE, 48), 0);
        due.is("10 place", x.ended(), 2);
        due.is("9 least place", x.line(0, 0, 0, 0, 0, Integer.MIN_VALUE, 48), 0);
        due.is("10 place", x.ended(), 2);
        due.is("9 right, beyond", x.line(0, 6, 0, 0, 0, 0, 4), 2);
        due.is("10 beyond", x.ended(), 3);
        due.is("9 left, beyond", x.line(0, 9, 2, 0, 0, 0, 4), 2);
        due.is("10 beyond", x.ended(), 3);
        due.is("9 up, beyond", x.line(0, 9, 3, 0, 0, 0, 4), 2);
        due.is("10 beyond", x.ended(), 3);
        due.is("9 down, beyond", x.line(0, 39, 1, 0, 0, 0, 4), 2);
        due.is("10 beyond", x.ended(), 3);
        due.is("9 to the edge", x.line(0, 6, 0, 0, 0, 0, 2), 2);
        due.is("10 all came at the edge", x.ended(), 0);
        due.is("9 999 and 1000 feet", x.line(0, 0, 0, 0, 0, 4, 3), 1);
        due.is("10 feet", x.ended(), 4);
        due.is("9 -99 and -99.125 feet", x.line(0, 0, 0, 0, 0, 6, 2), 1);
        due.is("10 feet", x.ended(), 4);
        due.is("9 feet and place: the least", x.line(0, 0, 0, 0, 0, 7, 1), 0);
        due.is("10 feet", x.ended(), 4);
        due.is("9 beyond and feet: the least", x.line(0, 7, 0, 0, 0, 4, 2), 1);
        due.is("10 beyond", x.ended(), 3);
        due.is("9 place and beyond: the least", x.line(0, 47, 1, 0, 0, 6, 1), 1);
        due.is("9 place and beyond: the least", x.line(0, 47, 1, 0, 0, 7, 2), 0);
        due.is("10 feet ahead of place", x.ended(), 4);
        reals(x, 1, 8);
        due.is("9 place and beyond: the least", x.line(0, 47, 1, 0, 1, 0, 2), 1);
        due.is("10 place", x.ended(), 2);
    }

    private static void lineRefused() {
        FathomRoom x = room();
        reals(x, 0, 8, 16, 24);
        x.tape(1, 2, 3);
        due.is("9 no survey", x.line(2, 0, 0, 0, 0, 0, 1), -1);
        due.is("9 no survey", x.line(-1, 0, 0, 0, 0, 0, 1), -1);
        due.is("9 no cell", x.line(0, 48, 0, 0, 0, 0, 1), -1);
        due.is("9 no cell", x.line(0, -1, 0, 0, 0, 0, 1), -1);
        due.is("9 no tape", x.line(0, 0, 0, 0, 6, 0, 1), -1);
        due.is("9 no tape", x.line(0, 0, 0, 0, -1, 0, 1), -1);
        due.is("9 none ahead of bad", x.line(0, 0, 4, 0, 6, 0, 1), -1);
        due.is("9 direction -1", x.line(0, 0, -1, 0, 0, 0, 1), -2);
        due.is("9 direction 4", x.line(0, 0, 4, 0, 0, 0, 1), -2);
        due.is("9 hour -1", x.line(0, 0, 0, -1, 0, 0, 1), -2);
        due.is("9 hour 100000", x.line(0, 0, 0, 100000, 0, 0, 1), -2);
        due.is("9 n 0", x.line(0, 0, 0, 0, 0, 0, 0), -2);
        due.is("9 n 49", x.line(0, 0, 0, 0, 0, 0, 49), -2);
        due.is("9 bad ahead of cast", x.line(0, 0, 0, 0, 1, 0, 49), -2);
        for (int sort = 0; sort < 3; sort++) {
            x.tape(1, sort, 3);
            due.is("9 cast " + sort, x.line(0, 0, 0, 0, 1, 0, 1), -12);
        }
        due.is("10 no line yet", x.ended(), -3);
        due.is("9 nothing told", x.count(2), 0);
        x.line(0, 7, 0, 0, 0, 0, 2);
        x.line(0, 0, 0, 0, 1, 0, 1);
        x.line(0, 0, 0, 0, 0, 0, 49);
        due.is("10 of the latest not refused", x.ended(), 3);
        due.is("9 hour 99999 and beyond", x.line(0, 0, 0, 99999, 0, 0, 3), 3);
    }

    private static void lineBlanks() {
        FathomRoom x = room();
        reals(x, 0, 8, 16, 24, 32);
        x.blank(0, 1);
        due.is("9 with a blank", x.line(0, 0, 0, 0, 0, 0, 4), 3);
        due.is("10 all came", x.ended(), 0);
        due.is("9 behind the blank", x.of(1, 1), 2);
        due.is("9 behind the blank", x.of(1, 3), 3);
        due.is("9 a blank alone", x.line(0, 0, 0, 0, 0, 1, 1), 0);
        due.is("10 all came", x.ended(), 0);
        due.is("9 a blank beyond the sea", x.line(0, 7, 0, 0, 0, 0, 2), 1);
        due.is("10 beyond", x.ended(), 3);
        x.blank(0, 0);
        x.blank(0, 2);
        x.blank(0, 3);
        due.is("9 blanks alone", x.line(0, 0, 0, 0, 0, 0, 4), 0);
        due.is("10 all came", x.ended(), 0);
    }

    private static void lineTides() {
        FathomRoom x = room();
        reals(x, 0, 800, 800, 800, 800);
        x.part(0, 12, 4, 0);
        for (int cell = 0; cell < 8; cell++) {
            x.gauge(cell, 0);
        }
        x.gauge(2, -1);
        // tides 12, 6, 0, 6 from hour 0 on: an hour later in each CELL
        due.is("9 with tides", x.line(0, 0, 0, 1, 0, 0, 4), 4);
        int[] feet = {94, 100, 100, 88};
        for (int i = 0; i < 4; i++) {
            due.is("9 with tides " + i, x.of(i, 3), feet[i]);
        }
        // (100000 mod 4) = 0: the hour goes on beyond 99999
        due.is("9 beyond 99999", x.line(0, 0, 0, 99999, 0, 0, 2), 2);
        due.is("9 at 99999", x.of(4, 3), 94);
        due.is("9 at 100000", x.of(5, 3), 88);
        // A blank takes its hour too.
        x.blank(0, 0);
        due.is("9 behind a blank", x.line(0, 0, 0, 0, 0, 0, 2), 1);
        due.is("9 behind a blank", x.of(6, 3), 94);
        reals(x, 1, -700);
        due.is("9 -88 less 12", x.line(0, 0, 0, 0, 1, 0, 1), 0);
        due.is("10 feet", x.ended(), 4);
        due.is("9 -88 less 6", x.line(0, 0, 0, 1, 1, 0, 1), 1);
        reals(x, 1, 8080);
        due.is("9 1010 less 12", x.line(0, 0, 0, 0, 1, 0, 1), 1);
        due.is("9 1010 less 12", x.of(8, 3), 998);
    }

    /** The greatest and the least that a row of reals holds, and those just within 999 and -99 feet. */
    private static void lineOfFarNumbers() {
        int[] eighths = {7999, 8000, 800000, -792, -793, -800000};
        int[] feet = {999, 0, 0, -99, 0, 0};
        for (int i = 0; i < eighths.length; i++) {
            FathomRoom x = room();
            reals(x, 0, eighths[i]);
            boolean fine = feet[i] != 0;
            due.is("9 of " + eighths[i], x.line(0, 0, 0, 0, 0, 0, 1), fine ? 1 : 0);
            due.is("10 of " + eighths[i], x.ended(), fine ? 0 : 4);
            due.is("16 of " + eighths[i], x.of(0, 3), fine ? feet[i] : -1000000);
        }
    }

    private static void lineOfALongRow() {
        FathomRoom x = room();
        x.tape(0, 3, 60);
        for (int i = 0; i < 60; i++) {
            x.item(0, i, 8 * i);
        }
        due.is("9 48 numbers, eight cells", x.line(0, 0, 0, 0, 0, 0, 48), 8);
        due.is("10 beyond", x.ended(), 3);
        due.is("9 48 numbers, six cells", x.line(0, 7, 1, 0, 0, 12, 48), 6);
        due.is("10 beyond", x.ended(), 3);
        due.is("9 the first of them", x.of(8, 3), 12);
        due.is("9 the last place", x.line(0, 0, 0, 0, 0, 59, 1), 1);
        due.is("10 all came", x.ended(), 0);
        due.is("9 the last number", x.of(14, 3), 59);
        due.is("9 one behind the last place", x.line(0, 0, 0, 0, 0, 59, 2), 1);
        due.is("10 place", x.ended(), 2);
        due.is("9 behind the last place", x.line(0, 0, 0, 0, 0, 60, 1), 0);
        due.is("10 place", x.ended(), 2);
        x.tape(0, 3, 0);
        due.is("9 a row of none", x.line(0, 0, 0, 0, 0, 0, 1), 0);
        due.is("10 place", x.ended(), 2);
        x.tape(0, -1, 0);
        due.is("9 no row any more", x.line(0, 0, 0, 0, 0, 0, 1), 0);
        due.is("10 nothing", x.ended(), 1);
    }

    // Promise 11
    private static void tell() {
        FathomRoom x = room();
        x.pass(4);
        due.is("11 no survey", x.tell(2, 2, 0, 0), -1);
        due.is("11 no survey", x.tell(2, -1, 0, 0), -1);
        due.is("11 no cell", x.tell(2, 0, 48, 0), -1);
        due.is("11 no cell", x.tell(2, 0, -1, 0), -1);
        due.is("11 none ahead of bad", x.tell(1, 0, -1, 0), -1);
        int[] badKinds = {-1, 0, 1, 6, 7};
        for (int kind : badKinds) {
            due.is("11 kind " + kind, x.tell(kind, 0, 0, 0), -2);
        }
        due.is("11 feet -100", x.tell(2, 0, 0, -100), -2);
        due.is("11 feet 1000", x.tell(5, 0, 0, 1000), -2);
        due.is("11 light of feet", x.tell(4, 0, 0, 1), -2);
        due.is("11 light of feet", x.tell(4, 0, 0, -1), -2);
        due.is("11 danger", x.tell(2, 1, 47, -99), 0);
        due.is("11 doubt", x.tell(3, 0, 0, 999), 1);
        due.is("11 light", x.tell(4, 0, 5, 0), 2);
        due.is("11 wreck", x.tell(5, 0, 6, 7), 3);
        int[][] whats = {{2, 47, 1, -99, 4, -1}, {3, 0, 0, 999, 4, -1}, {4, 5, 0, 0, 4, -1}, {5, 6, 0, 7, 4, -1}};
        for (int thing = 0; thing < 4; thing++) {
            for (int what = 0; what < 6; what++) {
                due.is("11 of(" + thing + ", " + what + ")", x.of(thing, what), whats[thing][what]);
            }
        }
    }

    // Promise 12
    private static void move() {
        FathomRoom x = room();
        x.tell(5, 1, 10, 6);
        x.tell(2, 0, 10, 6);
        x.tell(3, 0, 10, 6);
        x.tell(4, 0, 10, 0);
        x.sound(0, 10, 0, 6);
        due.is("12 no thing", x.move(-1, 0), -1);
        due.is("12 no thing", x.move(5, 0), -1);
        due.is("12 no cell", x.move(0, -1), -1);
        due.is("12 no cell", x.move(0, 48), -1);
        for (int thing = 1; thing < 5; thing++) {
            due.is("12 no wreck", x.move(thing, 0), -2);
        }
        due.is("12 there already", x.move(0, 10), -2);
        x.pass(9);
        due.is("12 moves", x.move(0, 47), 5);
        due.is("12 ended", x.of(0, 5), 9);
        int[] whats = {5, 47, 1, 6, 9, -1};
        for (int what = 0; what < 6; what++) {
            due.is("12 of(5, " + what + ")", x.of(5, what), whats[what]);
        }
        due.is("12 is ended", x.move(0, 11), -3);
        due.is("12 bad ahead of state", x.move(0, 10), -2);
        due.is("12 the new one", x.move(5, 10), 6);
        due.is("12 stands there yesterday", x.water(10, 8, 4), 6);
        due.is("12 the first was not ended then", x.water(47, 8, 4), -1000000);
    }

    // Promise 13
    private static void end() {
        FathomRoom x = room();
        x.sound(0, 10, 0, 6);
        x.tell(2, 0, 10, 6);
        x.tell(3, 0, 11, 6);
        x.tell(4, 0, 10, 0);
        x.tell(5, 0, 12, 6);
        due.is("13 no thing", x.end(-1), -1);
        due.is("13 no thing", x.end(5), -1);
        due.is("13 a depth", x.end(0), -2);
        due.is("13 a doubt", x.end(2), -2);
        x.pass(2);
        due.is("13 a danger", x.end(1), 1);
        due.is("13 a light", x.end(3), 1);
        due.is("13 a wreck", x.end(4), 1);
        due.is("13 its day", x.of(1, 5), 2);
        x.pass(1);
        due.is("13 is ended", x.end(1), -3);
        due.is("13 is ended", x.end(3), -3);
        due.is("13 is ended", x.end(4), -3);
        due.is("13 its day still", x.of(1, 5), 2);
        due.is("13 not a depth's", x.of(0, 5), -1);
        due.is("13 stood ahead", x.water(12, 1, 4), 6);
        due.is("13 not from that day on", x.water(12, 2, 4), -1000000);
        due.is("13 a moved wreck", x.move(4, 0), -3);
    }

    // Promise 14
    private static void bare() {
        FathomRoom x = room();
        x.sound(0, 9, 0, 50);
        x.tell(3, 0, 9, 10);
        x.tell(2, 0, 9, 5);
        due.is("14 no thing", x.bare(-1), -1);
        due.is("14 no thing", x.bare(3), -1);
        due.is("14 a depth", x.bare(0), -2);
        due.is("14 a danger", x.bare(2), -2);
        due.is("14 all, for the depth was told ahead", x.bare(1), 9);
        x.sound(0, 9, 0, 10);
        due.is("14 not more feet", x.bare(1), 9);
        x.sound(0, 9, 0, 11);
        due.is("14 more feet", x.bare(1), 8);
        x.sound(1, 0, 0, 50);
        due.is("14 of too much span", x.bare(1), 8);
        x.sound(0, 0, 0, 50);
        due.is("14 a corner", x.bare(1), 7);
        x.sound(0, 0, 0, 50);
        due.is("14 twice", x.bare(1), 7);
        x.sound(0, 27, 0, 50);
        x.sound(0, 11, 0, 50);
        due.is("14 too far", x.bare(1), 7);
        x.tell(2, 0, 18, 50);
        x.tell(5, 0, 17, 50);
        x.tell(3, 0, 16, 50);
        due.is("14 not by dangers, wrecks, doubts", x.bare(1), 7);
        int[] rest = {1, 2, 8, 10, 16, 17, 18};
        for (int i = 0; i < 7; i++) {
            x.sound(0, rest[i], 0, 50);
            due.is("14 less", x.bare(1), 6 - i);
        }
        x.strike(1, 0);
        due.is("14 ended", x.bare(1), -3);
    }

    private static void bareBySpan() {
        FathomRoom x = room();
        x.tell(3, 0, 9, 10);
        x.sound(1, 9, 0, 11);
        due.is("14 span 0", x.bare(0), 9);
        due.is("14 rule", Due.rule(x, "span 1", 0), 0);
        due.is("14 span 1 asks for one more", x.bare(0), 9);
        x.sound(1, 9, 0, 12);
        due.is("14 span 1", x.bare(0), 8);
        Due.rule(x, "span 2", 1);
        due.is("14 not in force yet", x.bare(0), 8);
        x.pass(1);
        due.is("14 in force", x.bare(0), 9);
        x.sound(0, 9, 0, 13);
        due.is("14 of less span", x.bare(0), 8);
    }

    private static void bareAtTheEdge() {
        FathomRoom x = room();
        x.tell(3, 0, 0, 10);
        x.tell(3, 0, 7, 10);
        x.tell(3, 0, 24, 10);
        x.tell(3, 0, 47, 10);
        due.is("14 a corner", x.bare(0), 4);
        due.is("14 a corner", x.bare(1), 4);
        due.is("14 an edge", x.bare(2), 6);
        due.is("14 a corner", x.bare(3), 4);
        x.sound(0, 8, 0, 11);
        due.is("14 no neighbour over the edge", x.bare(1), 4);
        due.is("14 a neighbour", x.bare(0), 3);
    }

    // Promise 15
    private static void strike() {
        FathomRoom x = room();
        x.tell(3, 0, 0, 10);
        x.tell(2, 0, 0, 10);
        x.sound(0, 0, 0, 10);
        due.is("15 no thing", x.strike(-1, 0), -1);
        due.is("15 no thing", x.strike(3, 0), -1);
        due.is("15 no survey", x.strike(0, -1), -1);
        due.is("15 no survey", x.strike(0, 2), -1);
        due.is("15 none ahead of bad", x.strike(1, 2), -1);
        due.is("15 a danger", x.strike(1, 0), -2);
        due.is("15 a depth", x.strike(2, 0), -2);
        due.is("15 bare", x.strike(0, 0), -3);
        x.sound(0, 0, 0, 11);
        x.sound(0, 1, 0, 11);
        x.sound(0, 8, 0, 11);
        due.is("15 one bare", x.strike(0, 0), -3);
        x.sound(0, 9, 0, 11);
        x.pass(6);
        due.is("15 struck", x.strike(0, 1), 7);
        due.is("15 ended", x.of(0, 5), 6);
        int[] whats = {6, 0, 1, 0, 6, -1};
        for (int what = 0; what < 6; what++) {
            due.is("15 of(7, " + what + ")", x.of(7, what), whats[what]);
        }
        due.is("15 is ended", x.strike(0, 1), -3);
        due.is("15 a struck", x.strike(7, 1), -2);
        due.is("13 a struck", x.end(7), -2);
    }

    // FULL of promises 8, 9, 11, 12, 15
    private static void full() {
        FathomRoom x = room();
        x.tell(5, 0, 20, 5);
        x.tell(3, 0, 0, 5);
        int[] corner = {0, 1, 8, 9};
        for (int cell : corner) {
            x.sound(0, cell, 0, 30);
        }
        for (int i = 6; i < 88; i++) {
            due.is("8 thing " + i, x.sound(0, 30, 0, 30), i);
        }
        reals(x, 0, 8, 16, 24, 8000);
        due.is("9 one has room less than asked", x.line(0, 0, 0, 0, 0, 0, 3), 2);
        due.is("10 no room", x.ended(), 5);
        due.is("11 full", x.tell(2, 0, 0, 0), -4);
        due.is("11 bad ahead of full", x.tell(2, 0, 0, 1000), -2);
        due.is("8 full", x.sound(0, 0, 0, 0), -4);
        due.is("8 bad ahead of full", x.sound(0, 0, 0, 1000), -2);
        due.is("12 full", x.move(0, 21), -4);
        due.is("12 nothing changed", x.of(0, 5), -1);
        due.is("15 full", x.strike(1, 0), -4);
        due.is("15 nothing changed", x.of(1, 5), -1);
        due.is("43 things", x.count(2), 90);
        due.is("9 feet and no room: the least", x.line(0, 0, 0, 0, 0, 3, 1), 0);
        due.is("10 feet", x.ended(), 4);
        x.blank(0, 0);
        due.is("9 a blank needs no room", x.line(0, 0, 0, 0, 0, 0, 1), 0);
        due.is("10 all came", x.ended(), 0);
        due.is("13 ends without room", x.end(0), 1);
        due.is("12 state ahead of full", x.move(0, 21), -3);
    }

    // Promise 16
    private static void of() {
        FathomRoom x = room();
        x.tell(2, 1, 33, -5);
        due.is("16 no thing", x.of(-1, 0), -1000000);
        due.is("16 no thing", x.of(1, 0), -1000000);
        due.is("16 no what", x.of(0, -1), -1000000);
        due.is("16 no what", x.of(0, 6), -1000000);
        due.is("16 kind", x.of(0, 0), 2);
        due.is("16 cell", x.of(0, 1), 33);
        due.is("16 survey", x.of(0, 2), 1);
        due.is("16 feet", x.of(0, 3), -5);
        due.is("16 day", x.of(0, 4), 0);
        due.is("16 not ended", x.of(0, 5), -1);
        x.end(0);
        due.is("16 ended on the first day", x.of(0, 5), 0);
    }
}
