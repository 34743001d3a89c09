import java.util.Random;

/** Long random runs of all calls, each answer held against the Model's. */
public final class RandomTest {
    private static final int RUNS = 4000, CALLS = 512, WRONG_SHOWN = 20;
    private static final String[] CLAUSES = {"rank lwe", "rank wel", "rank elw", "year 0", "year 4", "year 9", "near 0",
        "near 3", "near 12", "span 1", "span 2", "span 9", "late 0", "late 2", "late 30", "tell d", "tell dulws", "tell uw",
        "tell ls", "tell dw", "tell dulws", "year 12", "rank ewx", "tell dd", "near", "span 1234", "nera 1"};
    private static final int[] ODD = {Integer.MIN_VALUE, Integer.MAX_VALUE, -1, -2, 100000, 1 << 20, Integer.MAX_VALUE - 40};

    private final Random random;
    private final FathomRoom x = new FathomRoom();
    private final Model model = new Model();
    // Runs differ in how much of the sea they use, and in what they do most.
    private final int cells;
    private final int corner;
    private final int days;
    private String text = "";
    private String call;

    private RandomTest(long seed) {
        random = new Random(seed);
        int[] sizes = {2, 3, 4, 8};
        cells = sizes[random.nextInt(4)];
        corner = random.nextInt(3);
        days = random.nextInt(4) == 0 ? 400 : 6;
    }

    public static void main(String[] args) {
        int wrong = 0;
        long answers = 0;
        for (long seed = 0; seed < RUNS && wrong < WRONG_SHOWN; seed++) {
            RandomTest run = new RandomTest(seed);
            for (int i = 0; i < CALLS; i++) {
                int[] both = run.both();
                answers++;
                if (both[0] != both[1]) {
                    wrong++;
                    System.out.println("seed " + seed + " call " + i + ": " + run.call + " answered " + both[0]
                            + ", due is " + both[1]);
                    break;
                }
            }
        }
        System.out.println("RandomTest: " + answers + " answers, " + wrong + " not as due");
        if (wrong != 0) {
            System.exit(1);
        }
    }

    private int below(int n) {
        if (random.nextInt(60) == 0) {
            return ODD[random.nextInt(ODD.length)];
        }
        return random.nextInt(n);
    }

    /** A number up to how many there are, and a little beyond. */
    private int of(int what) {
        int n = model.count(what);
        return below(n + (random.nextInt(10) == 0 ? 2 : n == 0 ? 1 : 0));
    }

    private int cell() {
        if (random.nextInt(30) == 0) {
            return below(50);
        }
        return 8 * (corner + random.nextInt(Math.min(cells, 4))) + corner + random.nextInt(cells) - (cells == 8 ? corner : 0);
    }

    private int day() {
        int today = model.count(0);
        int pick = random.nextInt(12);
        if (pick == 0) {
            return below(10010);
        }
        return pick < 6 ? today : Math.max(0, today + random.nextInt(40) - 30);
    }

    private int[] both(String name, int... a) {
        call = Calls.told(name, a);
        return new int[] {Calls.program(x, name, a), Calls.model(model, name, a)};
    }

    private int[] both() {
        if (!text.isEmpty()) {
            return feedMore();
        }
        int pick = random.nextInt(100);
        if (pick < 30) {
            return tellSome();
        }
        if (pick < 42) {
            return changeSome();
        }
        if (pick < 60) {
            return chart();
        }
        if (pick < 80) {
            return askSome();
        }
        return pick < 88 ? sail() : tapes();
    }

    private int[] feedMore() {
        int n = Math.min(text.length(), 1 + random.nextInt(4));
        int bytes = random.nextInt(2) == 0 ? 0 : -1;
        for (int i = 0; i < n; i++) {
            bytes = bytes << 8 | text.charAt(i);
        }
        text = text.substring(n);
        return both("feed", bytes, n);
    }

    private int[] tellSome() {
        switch (random.nextInt(7)) {
            case 0:
                return both("survey", below(4) % 3, below(16), below(4));
            case 1:
            case 2:
                return both("sound", of(1), cell(), below(60), below(random.nextInt(3) == 0 ? 1010 : 40));
            case 3:
                return both("line", of(1), cell(), below(4), below(60), random.nextInt(3) + below(2), below(6), 1 + below(7));
            case 4:
                int kind = 2 + below(4);
                return both("tell", kind, of(1), cell(), kind == 4 && random.nextInt(8) > 0 ? 0 : below(40) - 5);
            case 5:
                return both("part", below(4), 1 + below(30), 2 + below(39), below(40));
            default:
                return both("gauge", cell(), below(5) - 1);
        }
    }

    private int[] changeSome() {
        switch (random.nextInt(8)) {
            case 0:
            case 1:
                return both("pass", 1 + below(days));
            case 2:
                return both("move", of(2), cell());
            case 3:
                return both("end", of(2));
            case 4:
                return both("strike", of(2), of(1));
            case 5:
                return both("traffic", cell(), below(12));
            case 6:
                return both("rule", random.nextInt(2) == 0 ? 0 : day());
            default:
                StringBuilder s = new StringBuilder();
                int n = 1 + random.nextInt(random.nextInt(5) == 0 ? 9 : 3);
                for (int i = 0; i < n; i++) {
                    s.append(i == 0 ? "" : random.nextInt(30) == 0 ? "," : ";");
                    // The last ones are faulty.
                    s.append(CLAUSES[random.nextInt(random.nextInt(9) == 0 ? CLAUSES.length : CLAUSES.length - 5)]);
                }
                text = s.toString();
                return both("ended");
        }
    }

    private int[] chart() {
        switch (random.nextInt(12)) {
            case 0:
                return both("sheet", cell(), 1 + below(4), 1 + below(4), below(4));
            case 1:
                return both("edition", of(4));
            case 2:
            case 3:
                return both("notice");
            case 4:
                return both("copy", of(4));
            case 5:
            case 6:
                return both("correct", of(7), of(6));
            case 7:
                return both("shown", of(4), day());
            case 8:
                return both("judge", of(4), below(random.nextInt(2) == 0 ? 64 : 5000));
            case 9:
            case 10:
                return both("stood", of(7), cell(), day());
            default:
                return both("worse", of(7), cell(), day());
        }
    }

    private int[] askSome() {
        switch (random.nextInt(16)) {
            case 0:
                return both("tide", cell(), below(100010));
            case 1:
                return both("ended");
            case 2:
            case 3:
                return both("bare", of(2));
            case 4:
                return both("of", of(2), below(6));
            case 5:
                return both("ruled", day(), below(7));
            case 6:
                return both("outranks", of(1), of(1), day());
            case 7:
            case 8:
            case 9:
                return both("water", cell(), day(), below(5));
            case 10:
                return both("printed", of(5), cell());
            case 11:
                return both("lights", of(5));
            case 12:
                return both("noticed", of(6), below(6));
            case 13:
                return both("late");
            case 14:
                return both("taken", of(2), below(8));
            default:
                return both("count", below(13));
        }
    }

    private int[] sail() {
        switch (random.nextInt(10)) {
            case 0:
            case 1:
            case 2:
                return both("step", cell());
            case 3:
                return random.nextInt(4) == 0 ? both("stepless") : both("trace", below(13));
            case 4:
            case 5:
                return both("go", of(7), below(40), below(60), below(4));
            case 6:
                return both("block", below(12), below(2));
            case 7:
                return both("plan", below(100), below(3));
            case 8:
                return both("act", of(2), below(3), random.nextInt());
            default:
                return both("trace", below(13));
        }
    }

    private int tape() {
        return random.nextInt(10) == 0 ? below(7) : random.nextInt(4);
    }

    private int[] tapes() {
        switch (random.nextInt(8)) {
            case 0:
                return both("tape", tape(), random.nextInt(2) == 0 ? 3 : below(6) - 1, below(10));
            case 1:
            case 2:
            case 3:
                return both("item", tape(), below(9), below(3) == 0 ? random.nextInt() >> random.nextInt(32) : below(400) - 40);
            case 4:
                return both("read", tape(), below(9));
            case 5:
                return both("blank", tape(), below(9));
            default:
                return both("shift", tape(), below(5), tape(), below(5), below(5));
        }
    }
}
