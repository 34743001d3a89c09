import java.util.ArrayList;
import java.util.List;

/**
 * Promises 2 to 48: of each number of each call the least and the greatest that is allowed, the one
 * below, the one above; that a refused call changes nothing that later calls show; and that of two
 * refusals the one that a call's words name first is answered.
 */
public final class EdgesTest {
    private static final int NONE = -1, BAD = -2, STATE = -3, NO = -1000000;
    private static final int NO_SUCH = -5, NOTHING = -11, CAST = -12, PLACE = -13, SIZE = -14;
    private static final int LEAST = Integer.MIN_VALUE, MOST = Integer.MAX_VALUE;
    // Of the furnished house.
    private static final int TODAY = 12, SURVEYS = 4, COPIES = 3, NOTICES = 3, EDITIONS = 3, SHEETS = 2;
    private static final int DEPTH = 0, LIGHT = 9, DANGER = 11, STRUCK_DOUBT = 12, ENDED_WRECK = 10, WRECK = 18, COVERED = 19;
    private static final int THINGS = 26;

    private static final Due due = new Due("EdgesTest");
    private static final List<Integer> untouched = later(furnished());

    public static void main(String[] args) {
        sea();
        soundings();
        things();
        thingsByState();
        rules();
        sheets();
        editions();
        copies();
        ways();
        acts();
        tapes();
        shifts();
        firstNamed();
        firstNamedOfTapes();
        due.end();
    }

    /** A house with something of everything, and its text half fed. */
    private static House furnished() {
        House house = new House(due);
        int[][] surveys = {{0, 10, 3}, {2, 40, 1}, {1, 45, 2}, {2, 50, 0}};
        for (int[] s : surveys) {
            house.ask("survey", s);
        }
        house.ask("part", 0, 6, 12, 3);
        house.ask("part", 3, 3, 25, 7);
        house.ask("gauge", 9, 0);
        house.ask("gauge", 10, 3);
        house.ask("traffic", 0, 9);
        house.ask("traffic", 9, 4);
        furnishTapes(house);
        int[][] soundings = {{0, 9, 5, 30}, {1, 9, 6, 22}, {0, 0, 0, 20}, {0, 47, 0, 20}};
        for (int[] s : soundings) {
            house.ask("sound", s);
        }
        house.ask("line", 2, 24, 0, 5, 0, 0, 6);
        int[][] told = {{2, 0, 10, 12}, {3, 1, 18, 8}, {4, 0, 17, 0}, {5, 2, 11, 6}, {2, 0, 33, 4}, {3, 0, 0, 5}};
        for (int[] t : told) {
            house.ask("tell", t);
        }
        int[] corner = {0, 1, 8, 9};
        for (int cell : corner) {
            house.ask("sound", 3, cell, 1, 20);
        }
        furnishCharts(house);
        return house;
    }

    private static void furnishTapes(House house) {
        int[] eighths = {81, 95, 0, -7, 8100, 0};
        house.ask("tape", 0, 3, 6);
        for (int i = 0; i < 6; i++) {
            house.ask("item", 0, i, eighths[i]);
        }
        house.ask("blank", 0, 2);
        for (int sort = 0; sort < 3; sort++) {
            house.ask("tape", 1 + sort, sort, 4);
            house.ask("item", 1 + sort, 1, 77);
        }
        house.ask("tape", 5, 3, 6);
        house.ask("item", 5, 0, 80);
    }

    private static void furnishCharts(House house) {
        house.rule("rank lwe;tell dulws;near 3;late 1", 0);
        house.ask("sheet", 9, 2, 3, 1);
        house.ask("sheet", 0, 2, 2, 1);
        house.ask("edition", 0);
        house.ask("edition", 1);
        house.ask("copy", 0);
        house.ask("copy", 1);
        house.ask("notice");
        house.ask("pass", 3);
        house.ask("strike", STRUCK_DOUBT, 1);
        house.ask("move", ENDED_WRECK, 12);
        house.ask("notice");
        house.ask("correct", 0, 1);
        house.ask("edition", 0);
        house.ask("copy", 0);
        house.ask("pass", 9);
        house.ask("tell", 3, 0, 40, 5);
        int[] corner = {32, 33, 40, 41};
        for (int cell : corner) {
            house.ask("sound", 3, cell, 0, 20);
        }
        house.ask("notice");
        house.ask("correct", 2, 1);
        house.rule("near 5;tell dul", 12);
        house.ask("tell", 2, 1, 9, 4);
        house.ask("end", 7);
        house.ask("tell", 4, 1, 9, 0);
        int[] way = {9, 10, 19};
        for (int cell : way) {
            house.ask("step", cell);
        }
        house.ask("act", 8, 2, 5);
        house.feed("near 1");
    }

    // ---- what later calls show

    private static List<Integer> later(House house) {
        List<Integer> answers = new ArrayList<>();
        showCounts(house, answers);
        showCharts(house, answers);
        showTapes(house, answers);
        showChanges(house, answers);
        return answers;
    }

    private static void add(List<Integer> answers, House house, String name, int... a) {
        answers.add(house.ask(name, a));
    }

    private static void showCounts(House house, List<Integer> answers) {
        for (int what = 0; what < 12; what++) {
            add(answers, house, "count", what);
        }
        add(answers, house, "ended");
        for (int i = 0; i < 7; i++) {
            add(answers, house, "trace", i);
        }
        for (int thing = 0; thing < THINGS; thing++) {
            add(answers, house, "of", thing, 5);
        }
        for (int what = 0; what < 5; what++) {
            add(answers, house, "of", THINGS - 1, what);
        }
        add(answers, house, "tide", 9, 5);
        add(answers, house, "tide", 10, 5);
        for (int what = 0; what < 7; what++) {
            add(answers, house, "ruled", 0, what);
            add(answers, house, "ruled", 9999, what);
        }
        add(answers, house, "outranks", 0, 1, 0);
        add(answers, house, "outranks", 3, 2, 12);
        add(answers, house, "bare", 8);
        add(answers, house, "late");
    }

    private static void showCharts(House house, List<Integer> answers) {
        int[] cells = {0, 9, 18, 24, 47};
        for (int cell : cells) {
            add(answers, house, "water", cell, 0, 1);
            add(answers, house, "water", cell, TODAY, 0);
            add(answers, house, "water", cell, TODAY, 4);
            add(answers, house, "printed", 0, cell);
            add(answers, house, "printed", 2, cell);
            for (int copy = 0; copy < COPIES; copy++) {
                add(answers, house, "stood", copy, cell, TODAY);
                add(answers, house, "stood", copy, cell, 3);
                add(answers, house, "worse", copy, cell, TODAY);
            }
        }
        for (int sheet = 0; sheet < SHEETS; sheet++) {
            add(answers, house, "shown", sheet, 0);
            add(answers, house, "shown", sheet, TODAY);
        }
        add(answers, house, "judge", 0, 63);
        for (int edition = 0; edition < EDITIONS; edition++) {
            add(answers, house, "lights", edition);
        }
        for (int notice = 0; notice < NOTICES; notice++) {
            add(answers, house, "noticed", notice, 0);
            add(answers, house, "noticed", notice, 2);
        }
        for (int what = 0; what < 4; what++) {
            add(answers, house, "go", 0, 30, 5, what);
        }
        for (int what = 0; what < 3; what++) {
            add(answers, house, "plan", 20, what);
        }
    }

    private static void showTapes(House house, List<Integer> answers) {
        for (int tape = 0; tape < 6; tape++) {
            for (int i = 0; i < 7; i += 2) {
                add(answers, house, "read", tape, i);
            }
            add(answers, house, "read", tape, 1);
        }
    }

    /** What calls that change something answer, and show then. */
    private static void showChanges(House house, List<Integer> answers) {
        add(answers, house, "survey", 0, 0, 0);
        add(answers, house, "part", 0, 1, 2, 0);
        add(answers, house, "part", 3, 1, 2, 0);
        int[] cells = {0, 9, 10, 47};
        for (int cell : cells) {
            add(answers, house, "gauge", cell, -1);
            add(answers, house, "traffic", cell, 0);
        }
        add(answers, house, "notice");
        for (int i = 0; i < 5; i++) {
            add(answers, house, "noticed", NOTICES, i);
        }
        add(answers, house, "edition", 0);
        add(answers, house, "copy", 1);
        add(answers, house, "correct", 1, 0);
        add(answers, house, "correct", 0, NOTICES);
        add(answers, house, "stood", 0, 9, TODAY);
        add(answers, house, "sheet", 0, 1, 1, 0);
        add(answers, house, "feed", 0x32, 1);
        add(answers, house, "rule", TODAY);
        add(answers, house, "ruled", TODAY, 2);
        add(answers, house, "strike", COVERED, 0);
        add(answers, house, "move", WRECK, 11);
        add(answers, house, "end", DANGER);
        add(answers, house, "sound", 0, 9, 0, 7);
        add(answers, house, "step", 20);
        add(answers, house, "stepless");
        add(answers, house, "pass", 1);
    }

    // ---- edges

    private static int[] with(int[] numbers, int at, int n) {
        int[] a = numbers.clone();
        a[at] = n;
        return a;
    }

    private static void allowed(int promise, int refusal, int at, int n, String name, int... numbers) {
        int[] a = with(numbers, at, n);
        int got = furnished().ask(name, a);
        // SPARE may be any of these numbers.
        boolean another = promise != 37 && got <= BAD && got >= SIZE;
        due.is(promise + " allowed by " + Calls.told(name, a), got == refusal || another ? got : 0, 0);
    }

    private static void refused(int promise, int refusal, int at, int[] bad, String name, int... numbers) {
        House house = furnished();
        for (int n : bad) {
            house.ask(promise, refusal, name, with(numbers, at, n));
        }
        due.is(promise + " " + name + " refused changes nothing", later(house).equals(untouched) ? 0 : 1, 0);
    }

    /** The numbers from least to most are allowed at that place of a call, others are refused. */
    private static void edge(int promise, int refusal, int least, int most, int at, String name, int... numbers) {
        allowed(promise, refusal, at, least, name, numbers);
        allowed(promise, refusal, at, most, name, numbers);
        refused(promise, refusal, at, new int[] {least - 1, most + 1, LEAST, MOST}, name, numbers);
    }

    /** For a call that is refused whatever the other numbers are. */
    private static void none(int promise, int refusal, int at, int count, String name, int... numbers) {
        refused(promise, refusal, at, new int[] {-1, count, LEAST, MOST}, name, numbers);
    }

    private static void refusedAll(int promise, int refusal, String name, int[]... calls) {
        House house = furnished();
        for (int[] call : calls) {
            house.ask(promise, refusal, name, call);
        }
        due.is(promise + " " + name + " refused changes nothing", later(house).equals(untouched) ? 0 : 1, 0);
    }

    /** Each wrong is a refusal, the place of a number, and what is wrong there; in the order of the call's words. */
    private static void inOrder(String name, int[] fine, int[]... wrongs) {
        House house = furnished();
        for (int i = 0; i < wrongs.length; i++) {
            for (int j = i; j < wrongs.length; j++) {
                int[] first = wrongs[i];
                int[] second = wrongs[j];
                if (i == j || first[1] != second[1]) {
                    int[] both = with(with(fine, first[1], first[2]), second[1], second[2]);
                    house.ask(Calls.promise(name), first[0], name, both);
                }
            }
        }
        due.is(Calls.promise(name) + " " + name + " refused changes nothing", later(house).equals(untouched) ? 0 : 1, 0);
    }

    private static void sea() {
        edge(2, BAD, 1, 400, 0, "pass", 1);
        edge(3, BAD, 0, 2, 0, "survey", 0, 10, 3);
        edge(3, BAD, 0, 999, 1, "survey", 0, 10, 3);
        edge(3, BAD, 0, 9, 2, "survey", 0, 10, 3);
        edge(4, NONE, 0, 3, 0, "part", 0, 1, 2, 0);
        edge(4, BAD, 1, 30, 1, "part", 0, 1, 2, 0);
        edge(4, BAD, 2, 40, 2, "part", 0, 1, 2, 0);
        edge(4, BAD, 0, 39, 3, "part", 0, 1, 2, 0);
        edge(5, NO_SUCH, 0, 47, 0, "gauge", 9, 1);
        edge(5, NO_SUCH, -1, 3, 1, "gauge", 9, 1);
        edge(6, NO, 0, 47, 0, "tide", 9, 5);
        edge(6, NO, 0, 99999, 1, "tide", 9, 5);
        edge(7, NONE, 0, 47, 0, "traffic", 9, 5);
        edge(7, BAD, 0, 99, 1, "traffic", 9, 5);
    }

    private static void soundings() {
        edge(8, NONE, 0, SURVEYS - 1, 0, "sound", 0, 9, 5, 30);
        edge(8, NONE, 0, 47, 1, "sound", 0, 9, 5, 30);
        edge(8, BAD, 0, 99999, 2, "sound", 0, 9, 5, 30);
        edge(8, BAD, 0, 999, 3, "sound", 0, 9, 5, 30);
        edge(9, NONE, 0, SURVEYS - 1, 0, "line", 0, 9, 0, 5, 0, 0, 2);
        edge(9, NONE, 0, 47, 1, "line", 0, 9, 0, 5, 0, 0, 2);
        edge(9, BAD, 0, 3, 2, "line", 0, 9, 0, 5, 0, 0, 2);
        edge(9, BAD, 0, 99999, 3, "line", 0, 9, 0, 5, 0, 0, 2);
        edge(9, NONE, 0, 5, 4, "line", 0, 9, 0, 5, 0, 0, 2);
        edge(9, BAD, 1, 48, 6, "line", 0, 9, 0, 5, 0, 0, 2);
        refused(9, CAST, 4, new int[] {1, 2, 3}, "line", 0, 9, 0, 5, 0, 0, 2);
        refused(9, CAST, 5, new int[] {-1, 4, LEAST, MOST}, "line", 0, 9, 0, 5, 1, 0, 2);
    }

    private static void things() {
        edge(11, BAD, 2, 5, 0, "tell", 2, 0, 9, 0);
        edge(11, NONE, 0, SURVEYS - 1, 1, "tell", 2, 0, 9, 0);
        edge(11, NONE, 0, 47, 2, "tell", 2, 0, 9, 0);
        edge(11, BAD, -99, 999, 3, "tell", 2, 0, 9, 0);
        edge(11, BAD, -99, 999, 3, "tell", 3, 0, 9, 0);
        edge(11, BAD, 0, 0, 3, "tell", 4, 0, 9, 0);
        edge(11, BAD, -99, 999, 3, "tell", 5, 0, 9, 0);
        edge(12, NONE, 0, 47, 1, "move", WRECK, 11);
        none(12, NONE, 0, THINGS, "move", WRECK, 11);
        none(12, NONE, 1, 48, "move", DANGER, 11);
        refusedAll(12, BAD, "move", new int[] {DEPTH, 20}, new int[] {DANGER, 20}, new int[] {COVERED, 20},
                new int[] {LIGHT, 20}, new int[] {WRECK, 12}, new int[] {ENDED_WRECK, 11});
        refusedAll(12, STATE, "move", new int[] {ENDED_WRECK, 20}, new int[] {ENDED_WRECK, 12});
        none(13, NONE, 0, THINGS, "end", DANGER);
        none(14, NONE, 0, THINGS, "bare", COVERED);
        none(15, NONE, 0, THINGS, "strike", COVERED, 0);
        none(15, NONE, 0, THINGS, "strike", COVERED, SURVEYS);
        edge(15, NONE, 0, SURVEYS - 1, 1, "strike", COVERED, 0);
        none(15, NONE, 1, SURVEYS, "strike", DANGER, 0);
        edge(16, NO, 0, THINGS - 1, 0, "of", 0, 1);
        edge(16, NO, 0, 5, 1, "of", 0, 1);
        edge(42, NOTHING, 0, THINGS - 1, 0, "taken", 0, 0);
    }

    /** By KIND, and by what became of a THING. */
    private static void thingsByState() {
        refusedAll(13, BAD, "end", new int[] {DEPTH}, new int[] {COVERED}, new int[] {STRUCK_DOUBT}, new int[] {17});
        refusedAll(13, STATE, "end", new int[] {7}, new int[] {ENDED_WRECK});
        refusedAll(14, BAD, "bare", new int[] {DEPTH}, new int[] {DANGER}, new int[] {LIGHT}, new int[] {WRECK},
                new int[] {17}, new int[] {7}, new int[] {ENDED_WRECK});
        refusedAll(14, STATE, "bare", new int[] {STRUCK_DOUBT});
        refusedAll(15, BAD, "strike", new int[] {DEPTH, 0}, new int[] {DANGER, 0}, new int[] {LIGHT, 0},
                new int[] {WRECK, 0}, new int[] {17, 0}, new int[] {7, 0});
        refusedAll(15, STATE, "strike", new int[] {STRUCK_DOUBT, 0}, new int[] {8, 0});
        refusedAll(42, CAST, "taken", new int[] {DEPTH, 2}, new int[] {LIGHT, 1}, new int[] {DANGER, 3}, new int[] {WRECK, 3});
        refusedAll(42, BAD, "taken", new int[] {DEPTH, -1}, new int[] {DEPTH, 7}, new int[] {THINGS, 7},
                new int[] {DEPTH, LEAST}, new int[] {DEPTH, MOST});
        for (int kind = 0; kind < 7; kind++) {
            House house = furnished();
            int[] of = {DEPTH, DEPTH, DANGER, COVERED, LIGHT, WRECK, 17};
            house.ask(42, kind == 0 ? 1 : kind, "taken", of[kind], kind);
        }
    }

    private static void rules() {
        edge(17, BAD, 0, 4, 1, "feed", 0x31, 1);
        edge(18, BAD, 0, 9999, 0, "rule", 0);
        edge(19, NO_SUCH, 0, 9999, 0, "ruled", 0, 1);
        edge(19, NO_SUCH, 0, 6, 1, "ruled", 0, 1);
        edge(20, NONE, 0, SURVEYS - 1, 0, "outranks", 0, 1, 0);
        edge(20, NONE, 0, SURVEYS - 1, 1, "outranks", 1, 0, 0);
        edge(20, BAD, 0, 9999, 2, "outranks", 0, 1, 0);
        refusedAll(20, BAD, "outranks", new int[] {0, 0, 0}, new int[] {3, 3, 0}, new int[] {3, 3, -1});
        refusedAll(20, NONE, "outranks", new int[] {4, 4, 0}, new int[] {-1, -1, 0}, new int[] {0, 4, -1});
    }

    private static void sheets() {
        edge(21, NO, 0, 47, 0, "water", 0, 0, 0);
        edge(21, NO, 0, 9999, 1, "water", 0, 0, 0);
        edge(21, NO, 0, 4, 2, "water", 0, 0, 0);
        edge(22, BAD, 0, 47, 0, "sheet", 9, 1, 1, 0);
        edge(22, BAD, 1, 4, 1, "sheet", 9, 1, 1, 0);
        edge(22, BAD, 1, 4, 2, "sheet", 9, 1, 1, 0);
        edge(22, BAD, 0, 3, 3, "sheet", 9, 1, 1, 0);
        // 12 CELLS at most, and none beyond the sea.
        edge(22, BAD, 1, 3, 1, "sheet", 9, 1, 4, 0);
        edge(22, BAD, 1, 3, 2, "sheet", 9, 4, 1, 0);
        edge(22, BAD, 1, 2, 1, "sheet", 32, 1, 4, 0);
        edge(22, BAD, 1, 2, 2, "sheet", 38, 2, 1, 0);
        edge(23, NO_SUCH, 0, SHEETS - 1, 0, "shown", 0, 0);
        edge(23, NO_SUCH, 0, 9999, 1, "shown", 0, 0);
        edge(24, NO_SUCH, 0, SHEETS - 1, 0, "judge", 0, 15);
        edge(24, NO_SUCH, 0, 63, 1, "judge", 0, 0);
        edge(24, NO_SUCH, 0, 15, 1, "judge", 1, 0);
    }

    private static void editions() {
        edge(25, NONE, 0, SHEETS - 1, 0, "edition", 0);
        edge(26, NO, 0, EDITIONS - 1, 0, "printed", 0, 18);
        none(26, NO, 1, 48, "printed", 0, 18);
        edge(27, NONE, 0, EDITIONS - 1, 0, "lights", 0);
        edge(29, NONE, 0, NOTICES - 1, 0, "noticed", 0, 0);
        // The first NOTICE tells six THINGS, the second a WRECK and a STRUCK and two that are ENDED.
        edge(29, NONE, 0, 5, 1, "noticed", 0, 0);
        edge(29, NONE, 0, 3, 1, "noticed", 1, 0);
    }

    private static void copies() {
        edge(31, NONE, 0, SHEETS - 1, 0, "copy", 0);
        edge(32, NONE, 0, COPIES - 1, 0, "correct", 0, 2);
        none(32, NONE, 1, NOTICES, "correct", 0, 2);
        allowed(32, NONE, 1, 0, "correct", 1, 0);
        allowed(32, NONE, 1, NOTICES - 1, "correct", 1, 0);
        refusedAll(32, STATE, "correct", new int[] {0, 1}, new int[] {0, 0}, new int[] {2, 1}, new int[] {2, 0});
        edge(33, NO, 0, COPIES - 1, 0, "stood", 0, 18, 5);
        none(33, NO, 1, 48, "stood", 0, 18, 5);
        edge(33, NO, 0, 9999, 2, "stood", 0, 18, 5);
        edge(33, NO, 3, 9999, 2, "stood", 2, 18, 5);
        edge(34, NO_SUCH, 0, COPIES - 1, 0, "worse", 0, 9, 5);
        edge(34, NO_SUCH, 0, 47, 1, "worse", 0, 9, 5);
        edge(34, NO_SUCH, 0, TODAY, 2, "worse", 0, 9, 5);
        edge(34, NO_SUCH, 3, TODAY, 2, "worse", 2, 9, 5);
    }

    private static void ways() {
        none(35, NONE, 0, 48, "step", 10);
        // THE WAY ends in CELL 19: row 2, column 3.
        refusedAll(35, BAD, "step", new int[] {19}, new int[] {17}, new int[] {21}, new int[] {3}, new int[] {35},
                new int[] {0}, new int[] {47});
        edge(37, NO, 0, COPIES - 1, 0, "go", 0, 30, 5, 0);
        edge(37, NO, 0, 99, 1, "go", 0, 30, 5, 0);
        edge(37, NO, 0, 99000, 2, "go", 0, 30, 5, 0);
        edge(37, NO, 0, 3, 3, "go", 0, 30, 5, 0);
        edge(38, NONE, 0, 11, 0, "block", 0, 0);
        edge(38, NONE, 0, 1, 1, "block", 0, 0);
        edge(39, NO_SUCH, 0, 99, 0, "plan", 10, 0);
        edge(39, NO_SUCH, 0, 2, 1, "plan", 10, 0);
        int[] ends = {0, 47};
        for (int cell : ends) {
            House house = furnished();
            house.ask(36, 3, "stepless");
            house.ask(35, 1, "step", cell);
        }
    }

    private static void acts() {
        allowed(40, NO, 0, 0, "act", 0, 0, 5);
        allowed(40, NO, 0, THINGS - 1, "act", 0, 0, 5);
        int[][] none = {{-1, 0, 5}, {THINGS, 0, 5}, {LEAST, 0, 5}, {MOST, 0, 5}, {0, -1, 5}, {0, 3, 5}, {0, LEAST, 5}, {0, MOST, 5}};
        for (int[] a : none) {
            House house = furnished();
            house.ask(41, 31, "trace", 0);
            house.ask(40, 0, "act", a);
            house.ask(41, -1, "trace", 0);
            house.ask(43, 0, "count", 11);
        }
        // A DOUBT ends by seven bodies.
        edge(41, NONE, 0, 6, 0, "trace", 0);
        edge(43, BAD, 0, 11, 0, "count", 0);
    }

    private static void tapes() {
        edge(44, NONE, 0, 5, 0, "tape", 0, 3, 6);
        edge(44, BAD, -1, 3, 1, "tape", 0, 3, 6);
        for (int sort = 0; sort < 4; sort++) {
            allowed(44, BAD, 2, 0, "tape", 0, sort, 6);
            allowed(44, BAD, 2, 60, "tape", 0, sort, 6);
            refused(44, BAD, 2, new int[] {61, MOST}, "tape", 0, sort, 6);
            refused(44, SIZE, 2, new int[] {-1, LEAST}, "tape", 0, sort, 6);
        }
        int[] whatever = {-1, 61, LEAST, MOST};
        for (int n : whatever) {
            allowed(44, BAD, 2, n, "tape", 0, -1, 6);
        }
        edge(45, NONE, 0, 5, 0, "item", 0, 0, 5);
        edge(45, PLACE, 0, 5, 1, "item", 0, 0, 5);
        edge(45, BAD, -800000, 800000, 2, "item", 0, 0, 5);
        for (int sort = 0; sort < 3; sort++) {
            edge(45, PLACE, 0, 3, 1, "item", 1 + sort, 0, 5);
            allowed(45, BAD, 2, LEAST, "item", 1 + sort, 0, 5);
            allowed(45, BAD, 2, MOST, "item", 1 + sort, 0, 5);
            refusedAll(47, CAST, "blank", new int[] {1 + sort, 0}, new int[] {1 + sort, -1}, new int[] {1 + sort, 4});
        }
        refusedAll(45, NOTHING, "item", new int[] {4, 0, 5}, new int[] {4, -1, 5}, new int[] {4, 0, 800001});
        none(46, NO, 0, 6, "read", 0, 0);
        edge(46, NO, 0, 5, 1, "read", 0, 0);
        refusedAll(46, NO, "read", new int[] {4, 0}, new int[] {4, -1});
        edge(47, NONE, 0, 5, 0, "blank", 0, 0);
        edge(47, PLACE, 0, 5, 1, "blank", 0, 0);
        refusedAll(47, NOTHING, "blank", new int[] {4, 0}, new int[] {4, -1});
    }

    private static void shifts() {
        edge(48, NONE, 0, 5, 0, "shift", 0, 1, 5, 2, 3);
        edge(48, NONE, 0, 5, 2, "shift", 0, 1, 5, 2, 3);
        edge(48, PLACE, 0, 3, 1, "shift", 0, 1, 5, 2, 3);
        edge(48, PLACE, 0, 3, 3, "shift", 0, 1, 5, 2, 3);
        edge(48, PLACE, 0, 4, 4, "shift", 0, 1, 5, 2, 3);
        edge(48, PLACE, 0, 2, 4, "shift", 0, 4, 5, 2, 3);
        edge(48, PLACE, 0, 4, 4, "shift", 0, 1, 0, 2, 3);
        edge(48, PLACE, 0, 6, 1, "shift", 0, 1, 5, 2, 0);
        edge(48, PLACE, 0, 6, 3, "shift", 0, 1, 5, 2, 0);
        refusedAll(48, NOTHING, "shift", new int[] {4, 0, 0, 0, 1}, new int[] {0, 0, 4, 0, 1}, new int[] {4, -1, 4, 0, 0},
                new int[] {4, 0, 1, 0, -1});
        refusedAll(48, CAST, "shift", new int[] {0, 0, 1, 0, 1}, new int[] {1, 0, 2, 0, 1}, new int[] {2, -1, 3, 0, 1},
                new int[] {3, 0, 5, 9, 1}, new int[] {3, 0, 5, 0, -1});
        refusedAll(48, NONE, "shift", new int[] {-1, 0, 4, 0, 1}, new int[] {4, 0, 6, 0, 1}, new int[] {0, -1, 6, 0, 1});
    }

    // ---- of several refusals

    private static void firstNamed() {
        inOrder("part", new int[] {0, 1, 2, 0}, new int[] {NONE, 0, 4}, new int[] {BAD, 1, 31}, new int[] {BAD, 2, 1},
                new int[] {BAD, 3, 40});
        inOrder("traffic", new int[] {9, 5}, new int[] {NONE, 0, 48}, new int[] {BAD, 1, 100});
        inOrder("sound", new int[] {0, 9, 5, 30}, new int[] {NONE, 0, SURVEYS}, new int[] {NONE, 1, 48},
                new int[] {BAD, 2, 100000}, new int[] {BAD, 3, 1000});
        inOrder("line", new int[] {0, 9, 0, 5, 0, 0, 2}, new int[] {NONE, 0, SURVEYS}, new int[] {NONE, 1, 48},
                new int[] {NONE, 4, 6}, new int[] {BAD, 2, 4}, new int[] {BAD, 3, 100000}, new int[] {BAD, 6, 0},
                new int[] {CAST, 4, 1});
        inOrder("tell", new int[] {2, 0, 9, 0}, new int[] {NONE, 1, SURVEYS}, new int[] {NONE, 2, 48},
                new int[] {BAD, 0, 6}, new int[] {BAD, 3, 1000});
        inOrder("move", new int[] {WRECK, 20}, new int[] {NONE, 0, THINGS}, new int[] {NONE, 1, 48},
                new int[] {BAD, 0, DANGER}, new int[] {STATE, 0, ENDED_WRECK});
        inOrder("strike", new int[] {COVERED, 0}, new int[] {NONE, 0, THINGS}, new int[] {NONE, 1, SURVEYS},
                new int[] {BAD, 0, DANGER}, new int[] {STATE, 0, STRUCK_DOUBT}, new int[] {STATE, 0, 8});
        inOrder("outranks", new int[] {0, 1, 0}, new int[] {NONE, 0, SURVEYS}, new int[] {NONE, 1, SURVEYS},
                new int[] {BAD, 2, 10000});
        inOrder("correct", new int[] {0, 2}, new int[] {NONE, 0, COPIES}, new int[] {NONE, 1, NOTICES}, new int[] {STATE, 1, 1});
        inOrder("taken", new int[] {DEPTH, 0}, new int[] {BAD, 1, 7}, new int[] {NOTHING, 0, THINGS}, new int[] {CAST, 1, 2});
    }

    private static void firstNamedOfTapes() {
        inOrder("tape", new int[] {0, 3, 6}, new int[] {NONE, 0, 6}, new int[] {BAD, 1, 4}, new int[] {BAD, 2, 61},
                new int[] {SIZE, 2, -1});
        inOrder("item", new int[] {0, 0, 5}, new int[] {NONE, 0, 6}, new int[] {NOTHING, 0, 4}, new int[] {PLACE, 1, 6},
                new int[] {BAD, 2, 800001});
        inOrder("blank", new int[] {0, 0}, new int[] {NONE, 0, 6}, new int[] {NOTHING, 0, 4}, new int[] {CAST, 0, 1},
                new int[] {PLACE, 1, 6});
        inOrder("shift", new int[] {0, 1, 5, 2, 3}, new int[] {NONE, 0, 6}, new int[] {NONE, 2, 6}, new int[] {NOTHING, 0, 4},
                new int[] {NOTHING, 2, 4}, new int[] {CAST, 2, 1}, new int[] {PLACE, 1, 7}, new int[] {PLACE, 3, -1},
                new int[] {PLACE, 4, 7});
    }
}
