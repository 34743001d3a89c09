/** Promises 40 to 48: acts and their trace, things taken for others, counts, tapes. */
public final class ActsTest {
    private static final int NO = -1000000;
    private static final Due due = new Due("ActsTest");

    public static void main(String[] args) {
        act();
        actBodies();
        actWraps();
        actsOfEachKindWrap();
        actRefused();
        taken();
        count();
        tape();
        item();
        read();
        blank();
        shift();
        shiftOverlapping();
        shiftPlaces();
        due.end();
    }

    /** Things 0 .. 5: a depth, a danger, a doubt, a light, a wreck, a struck (6, of an ended doubt 5). */
    private static FathomRoom room() {
        FathomRoom x = new FathomRoom();
        x.survey(0, 0, 0);
        x.sound(0, 3, 0, 100);
        x.tell(2, 0, 4, 21);
        x.tell(3, 0, 5, 33);
        x.tell(4, 0, 6, 0);
        x.tell(5, 0, 7, 45);
        x.tell(3, 0, 40, 1);
        int[] corner = {32, 33, 40, 41};
        for (int cell : corner) {
            x.sound(0, cell, 0, 30);
        }
        x.strike(5, 0);
        return x;
    }

    private static void traced(FathomRoom x, String call, int... bodies) {
        due.is("43 bodies of " + call, x.count(11), bodies.length);
        for (int i = 0; i < bodies.length; i++) {
            due.is("41 " + call + " body " + i, x.trace(i), bodies[i]);
        }
        due.is("41 " + call + " no more", x.trace(bodies.length), -1);
        due.is("41 " + call + " body -1", x.trace(-1), -1);
    }

    // Promises 40 and 41
    private static void act() {
        FathomRoom x = room();
        due.is("40 a depth shows", x.act(0, 0, 7), 7 + 3 + 100);
        traced(x, "a depth shows", 20, 10);
        due.is("40 a depth warns", x.act(0, 1, 7), 220);
        traced(x, "a depth warns", 11, 20, 10);
        due.is("40 a depth ends", x.act(0, 2, 7), 220);
        traced(x, "a depth ends", 12, 11, 20, 10);
        due.is("40 a danger shows", x.act(1, 0, -50), -50 + 4 + 21);
        traced(x, "a danger shows", 20, 10);
        due.is("40 a danger warns", x.act(1, 1, -50), -50 ^ 21);
        traced(x, "a danger warns", 30, 11, 20, 10);
        due.is("40 a danger ends", x.act(1, 2, -50), (-48 ^ 21) - 1);
        traced(x, "a danger ends", 31, 12, 30, 11, 20, 10);
        due.is("40 a doubt shows", x.act(2, 0, 2), 2 + 5 + 33 - 7);
        traced(x, "a doubt shows", 40, 20, 10);
        due.is("40 a doubt warns", x.act(2, 1, 2), 66 ^ 33);
        traced(x, "a doubt warns", 30, 11, 40, 20, 10);
        due.is("40 a doubt ends", x.act(2, 2, 2), (68 ^ 33) - 2);
        traced(x, "a doubt ends", 31, 12, 30, 11, 40, 20, 10);
    }

    private static void actBodies() {
        FathomRoom x = room();
        due.is("40 a light shows", x.act(3, 0, 8), 14);
        traced(x, "a light shows", 10);
        due.is("40 a light warns", x.act(3, 1, 8), 14 + 28);
        traced(x, "a light warns", 50, 10, 11, 10);
        due.is("40 a light ends", x.act(3, 2, 8), 42 - 3);
        traced(x, "a light ends", 12, 50, 10, 11, 10);
        due.is("40 a wreck shows", x.act(4, 0, 9), 9 + 7 + 45);
        traced(x, "a wreck shows", 20, 10);
        due.is("40 a wreck warns", x.act(4, 1, 9), 122 ^ 45);
        traced(x, "a wreck warns", 30, 11, 20, 10);
        due.is("40 a wreck ends", x.act(4, 2, 9), (124 ^ 45) - 4 + (122 ^ 45));
        traced(x, "a wreck ends", 60, 31, 12, 30, 11, 20, 10, 30, 11, 20, 10);
        due.is("40 it is a struck", x.of(10, 0), 6);
        due.is("40 a struck shows", x.act(10, 0, 3), -43);
        traced(x, "a struck shows", 70, 10);
        due.is("40 a struck warns", x.act(10, 1, 3), -86);
        traced(x, "a struck warns", 11, 70, 10);
        due.is("40 a struck ends", x.act(10, 2, 3), -96);
        traced(x, "a struck ends", 12, 11, 70, 10);
        due.is("40 an ended one too", x.act(5, 0, 3), 3 + 40 + 1 - 7);
        traced(x, "an ended one shows", 40, 20, 10);
    }

    private static void actWraps() {
        FathomRoom x = room();
        due.is("40 wraps", x.act(0, 0, Integer.MAX_VALUE), Integer.MIN_VALUE + 102);
        due.is("40 wraps", x.act(0, 1, Integer.MAX_VALUE), 204);
        due.is("40 wraps", x.act(1, 2, Integer.MAX_VALUE), (50 ^ 21) - 1);
        due.is("40 wraps", x.act(10, 0, Integer.MIN_VALUE - 40), Integer.MIN_VALUE);
    }

    /** The host's own wrapping, by the Model that lets the host choose the bodies. */
    private static void actsOfEachKindWrap() {
        int[] xs = {Integer.MIN_VALUE, Integer.MIN_VALUE + 1, -(1 << 30) - 1, -1, 0, (1 << 30) - 1, Integer.MAX_VALUE - 1,
            Integer.MAX_VALUE};
        House house = new House(due);
        house.ask("survey", 0, 0, 0);
        for (int kind = 2; kind < 6; kind++) {
            house.ask("tell", kind, 0, kind == 3 ? 40 : 5, kind == 4 ? 0 : -99);
        }
        int[] corner = {32, 33, 40, 41};
        for (int cell : corner) {
            house.ask("sound", 0, cell, 0, 999);
        }
        house.ask(15, 8, "strike", 1, 0);
        for (int thing = 0; thing < 9; thing++) {
            for (int act = 0; act < 3 && (thing < 5 || thing == 8); act++) {
                for (int x : xs) {
                    house.ask("act", thing, act, x);
                }
                house.ask("count", 11);
                house.ask("trace", 3);
            }
        }
    }

    private static void actRefused() {
        FathomRoom x = room();
        int[][] bad = {{-1, 0}, {11, 0}, {90, 0}, {0, -1}, {0, 3}};
        for (int[] b : bad) {
            x.act(4, 2, 1);
            due.is("40 none such", x.act(b[0], b[1], 5), 0);
            due.is("41 no trace", x.trace(0), -1);
            due.is("43 no bodies", x.count(11), 0);
        }
        x.act(4, 2, 1);
        x.pass(1);
        x.sound(0, 0, 0, 0);
        traced(x, "the latest", 60, 31, 12, 30, 11, 20, 10, 30, 11, 20, 10);
    }

    // Promise 42
    private static void taken() {
        FathomRoom x = room();
        due.is("42 k -1", x.taken(0, -1), -2);
        due.is("42 k 7", x.taken(0, 7), -2);
        due.is("42 bad ahead of nothing", x.taken(-1, 7), -2);
        due.is("42 nothing", x.taken(-1, 0), -11);
        due.is("42 nothing", x.taken(11, 0), -11);
        int[] things = {0, 1, 2, 3, 4, 10};
        int[][] asKinds = {{0, 1}, {0, 1, 2}, {0, 1, 2, 3}, {0, 4}, {0, 1, 2, 5}, {0, 6}};
        for (int i = 0; i < things.length; i++) {
            for (int k = 0; k <= 6; k++) {
                int want = -12;
                for (int asKind : asKinds[i]) {
                    want = asKind == k ? i + 1 : want;
                }
                due.is("42 taken(" + things[i] + ", " + k + ")", x.taken(things[i], k), want);
            }
        }
    }

    // Promise 43
    private static void count() {
        FathomRoom x = room();
        due.is("43 what -1", x.count(-1), -2);
        due.is("43 what 12", x.count(12), -2);
        x.pass(7);
        x.survey(0, 0, 0);
        Due.rule(x, "tell d", 0);
        Due.feed(x, "abc");
        for (int i = 0; i < 4; i++) {
            x.sheet(0, 1, 1, 0);
        }
        for (int i = 0; i < 5; i++) {
            x.edition(0);
        }
        for (int i = 0; i < 6; i++) {
            x.tell(2, 0, 0, 0);
            x.notice();
            x.copy(0);
        }
        x.copy(0);
        for (int i = 1; i < 6; i++) {
            x.correct(0, i);
        }
        for (int i = 0; i < 3; i++) {
            x.correct(1, i);
        }
        x.step(0);
        x.step(1);
        x.act(4, 2, 0);
        int[] counts = {7, 2, 17, 1, 4, 5, 6, 7, 8, 3, 2, 11};
        for (int what = 0; what < 12; what++) {
            due.is("43 count(" + what + ")", x.count(what), counts[what]);
        }
    }

    // Promise 44
    private static void tape() {
        FathomRoom x = new FathomRoom();
        due.is("44 no tape", x.tape(-1, 0, 0), -1);
        due.is("44 no tape", x.tape(6, 0, 0), -1);
        due.is("44 none ahead of bad", x.tape(6, 4, 0), -1);
        due.is("44 sort -2", x.tape(0, -2, 0), -2);
        due.is("44 sort 4", x.tape(0, 4, 0), -2);
        due.is("44 n 61", x.tape(0, 0, 61), -2);
        due.is("44 n -1", x.tape(0, 0, -1), -14);
        due.is("44 bad ahead of size", x.tape(0, 4, -1), -2);
        due.is("44 nothing there still", x.item(0, 0, 0), -11);
        for (int sort = 0; sort < 4; sort++) {
            due.is("44 sort " + sort, x.tape(sort, sort, 60), 1);
            due.is("44 all 0", x.read(sort, 59), 0);
            due.is("44 no more", x.read(sort, 60), NO);
            x.item(sort, 59, 5);
            x.item(sort, 0, 5);
            due.is("44 anew", x.tape(sort, sort, 60), 1);
            due.is("44 all 0 again", x.read(sort, 0), 0);
            due.is("44 all 0 again", x.read(sort, 59), 0);
        }
        due.is("44 of none", x.tape(5, 2, 0), 1);
        due.is("44 of none: no place", x.item(5, 0, 0), -13);
        due.is("44 nothing, whatever n", x.tape(0, -1, 61), 1);
        due.is("44 nothing, whatever n", x.tape(1, -1, -1), 1);
        due.is("44 nothing", x.item(0, 0, 0), -11);
        due.is("44 nothing", x.item(1, 0, 0), -11);
        due.is("44 least n", x.tape(2, 0, Integer.MIN_VALUE), -14);
        due.is("44 it stays", x.read(2, 0), 0);
    }

    // Promise 45
    private static void item() {
        FathomRoom x = new FathomRoom();
        due.is("45 no tape", x.item(-1, 0, 0), -1);
        due.is("45 no tape", x.item(6, 0, 0), -1);
        due.is("45 nothing", x.item(0, -1, 0), -11);
        x.tape(0, 0, 3);
        x.tape(1, 1, 3);
        x.tape(2, 2, 3);
        x.tape(3, 3, 3);
        int[] values = {0, 1, -1, 127, 128, 255, 256, 300, 32767, 32768, 40000, 65535, 70000, -129, -32769};
        int[] bytes = {0, 1, -1, 127, -128, -1, 0, 44, -1, 0, 64, -1, 112, 127, -1};
        int[] shorts = {0, 1, -1, 127, 128, 255, 256, 300, 32767, -32768, -25536, -1, 4464, -129, 32767};
        for (int i = 0; i < values.length; i++) {
            for (int tape = 0; tape < 4; tape++) {
                due.is("45 item", x.item(tape, 1, values[i]), 1);
            }
            due.is("45 byte of " + values[i], x.read(0, 1), bytes[i]);
            due.is("45 short of " + values[i], x.read(1, 1), shorts[i]);
            due.is("45 int of " + values[i], x.read(2, 1), values[i]);
            due.is("45 real of " + values[i], x.read(3, 1), values[i]);
        }
        x.item(2, 2, Integer.MIN_VALUE);
        due.is("45 least int", x.read(2, 2), Integer.MIN_VALUE);
        due.is("45 its neighbour", x.read(2, 1), -32769);
        due.is("45 place -1", x.item(3, -1, 0), -13);
        due.is("45 place 3", x.item(3, 3, 0), -13);
        due.is("45 place ahead of bad", x.item(3, 3, 800001), -13);
        due.is("45 real 800001", x.item(3, 0, 800001), -2);
        due.is("45 real -800001", x.item(3, 0, -800001), -2);
        due.is("45 it stays", x.read(3, 0), 0);
        due.is("45 real 800000", x.item(3, 0, 800000), 1);
        due.is("45 real -800000", x.item(3, 2, -800000), 1);
        due.is("45 read", x.read(3, 0), 800000);
        due.is("45 read", x.read(3, 2), -800000);
    }

    // Promise 46
    private static void read() {
        FathomRoom x = new FathomRoom();
        due.is("46 no tape", x.read(-1, 0), NO);
        due.is("46 no tape", x.read(6, 0), NO);
        due.is("46 nothing", x.read(0, 0), NO);
        x.tape(0, 2, 2);
        due.is("46 place -1", x.read(0, -1), NO);
        due.is("46 place 2", x.read(0, 2), NO);
        due.is("46 place of all", x.read(0, Integer.MAX_VALUE), NO);
        due.is("46 place 1", x.read(0, 1), 0);
        x.tape(5, 3, 2);
        x.item(5, 0, -13);
        x.blank(5, 1);
        due.is("46 eighths", x.read(5, 0), -13);
        due.is("46 no number", x.read(5, 1), 999999999);
    }

    // Promise 47
    private static void blank() {
        FathomRoom x = new FathomRoom();
        due.is("47 no tape", x.blank(-1, 0), -1);
        due.is("47 no tape", x.blank(6, 0), -1);
        due.is("47 nothing", x.blank(0, -1), -11);
        for (int sort = 0; sort < 3; sort++) {
            x.tape(0, sort, 2);
            due.is("47 cast ahead of place", x.blank(0, 2), -12);
        }
        x.tape(0, 3, 2);
        due.is("47 place -1", x.blank(0, -1), -13);
        due.is("47 place 2", x.blank(0, 2), -13);
        due.is("47 blank", x.blank(0, 1), 1);
        due.is("47 blank again", x.blank(0, 1), 1);
        due.is("47 its neighbour", x.read(0, 0), 0);
        x.item(0, 1, 4);
        due.is("47 a number again", x.read(0, 1), 4);
    }

    private static void fill(FathomRoom x, int tape, int sort, int n) {
        x.tape(tape, sort, n);
        for (int i = 0; i < n; i++) {
            x.item(tape, i, i + 1);
        }
    }

    // Promise 48
    private static void shift() {
        FathomRoom x = new FathomRoom();
        fill(x, 0, 3, 5);
        x.blank(0, 3);
        x.tape(1, 3, 6);
        fill(x, 2, 2, 5);
        due.is("48 no tape", x.shift(-1, 0, 1, 0, 1), -1);
        due.is("48 no tape", x.shift(0, 0, 6, 0, 1), -1);
        due.is("48 none ahead of nothing", x.shift(4, 0, 6, 0, 1), -1);
        due.is("48 nothing", x.shift(4, 0, 0, 0, 1), -11);
        due.is("48 nothing", x.shift(0, 0, 4, 0, 1), -11);
        due.is("48 nothing of itself", x.shift(4, 0, 4, 0, 0), -11);
        due.is("48 cast", x.shift(0, 0, 2, 0, 1), -12);
        due.is("48 cast ahead of place", x.shift(0, 0, 2, 0, 99), -12);
        due.is("48 shift", x.shift(0, 1, 1, 3, 3), 3);
        int[] items = {0, 0, 0, 2, 3, 999999999};
        for (int i = 0; i < 6; i++) {
            due.is("48 item " + i, x.read(1, i), items[i]);
        }
        due.is("48 the other stays", x.read(0, 1), 2);
        for (int sort = 0; sort < 4; sort++) {
            fill(x, 3, sort, 4);
            x.tape(4, sort, 2);
            due.is("48 sort " + sort, x.shift(3, 2, 4, 0, 2), 2);
            due.is("48 sort " + sort, x.read(4, 1), 4);
        }
    }

    private static void shiftOverlapping() {
        FathomRoom x = new FathomRoom();
        fill(x, 0, 0, 6);
        due.is("48 on", x.shift(0, 0, 0, 2, 4), 4);
        int[] on = {1, 2, 1, 2, 3, 4};
        for (int i = 0; i < 6; i++) {
            due.is("48 on " + i, x.read(0, i), on[i]);
        }
        fill(x, 0, 1, 6);
        due.is("48 back", x.shift(0, 2, 0, 0, 4), 4);
        int[] back = {3, 4, 5, 6, 5, 6};
        for (int i = 0; i < 6; i++) {
            due.is("48 back " + i, x.read(0, i), back[i]);
        }
        due.is("48 all to itself", x.shift(0, 0, 0, 0, 6), 6);
        due.is("48 stays", x.read(0, 5), 6);
    }

    private static void shiftPlaces() {
        FathomRoom x = new FathomRoom();
        fill(x, 0, 2, 5);
        fill(x, 1, 2, 3);
        int most = Integer.MAX_VALUE;
        int[][] bad = {{-1, 0, 1}, {0, -1, 1}, {0, 0, -1}, {5, 0, 1}, {0, 3, 1}, {3, 0, 3}, {0, 1, 3}, {0, 0, 4},
            {most, 0, 1}, {0, most, 1}, {0, 0, most}, {most, most, most}, {6, 0, 0}, {0, 4, 0}, {1, 1, most},
            {Integer.MIN_VALUE, 0, 0}, {0, 0, Integer.MIN_VALUE}};
        for (int[] b : bad) {
            due.is("48 place " + b[0] + " " + b[1] + " " + b[2], x.shift(0, b[0], 1, b[1], b[2]), -13);
        }
        due.is("48 none at the ends", x.shift(0, 5, 1, 3, 0), 0);
        due.is("48 the last", x.shift(0, 4, 1, 2, 1), 1);
        due.is("48 the last", x.read(1, 2), 5);
        due.is("48 all", x.shift(0, 2, 1, 0, 3), 3);
        due.is("48 all", x.read(1, 0), 3);
    }
}
