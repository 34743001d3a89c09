import java.util.Random;

/** Numbers of every size in every state: no call may throw, and each must end. */
public final class HostTest {
    private static final int[] EDGES = {Integer.MIN_VALUE, Integer.MIN_VALUE + 1, -1000000, -100, -99, -15, -14, -5, -2, -1,
        0, 1, 2, 3, 4, 5, 7, 8, 11, 12, 19, 20, 24, 47, 48, 59, 60, 89, 90, 99, 100, 119, 120, 400, 999, 1000, 4095, 4096,
        9999, 10000, 99000, 99999, 100000, 800000, 999999999, Integer.MAX_VALUE - 1, Integer.MAX_VALUE};

    public static void main(String[] args) {
        long calls = 0;
        for (int seed = 0; seed < 1500; seed++) {
            Random random = new Random(seed);
            FathomRoom x = new FathomRoom();
            boolean ready = seed % 2 == 0;
            if (ready) {
                fill(x, random);
            }
            for (int i = 0; i < 400; i++) {
                int[] a = new int[7];
                for (int k = 0; k < a.length; k++) {
                    a[k] = random.nextInt(3) == 0 ? EDGES[random.nextInt(EDGES.length)] : random.nextInt(8);
                }
                String name = Calls.NAMES[random.nextInt(Calls.NAMES.length)];
                try {
                    Calls.program(x, name, a);
                } catch (RuntimeException | StackOverflowError e) {
                    System.out.println("HostTest: " + Calls.promise(name) + " " + name + " threw " + e + " in run " + seed);
                    System.exit(1);
                }
                calls++;
            }
        }
        System.out.println("HostTest: " + calls + " calls, none threw");
    }

    /** To the brim: as many of each as there is room for in few calls. */
    private static void fill(FathomRoom x, Random random) {
        for (int i = 0; i < 12; i++) {
            x.survey(random.nextInt(3), random.nextInt(30), random.nextInt(10));
            x.tape(i % 6, 3, 60);
        }
        for (int i = 0; i < 14; i++) {
            x.line(i % 12, random.nextInt(8), 1, 0, 0, 0, 6);
            x.tell(2 + i % 4, 0, random.nextInt(48), 0);
        }
        Due.rule(x, "tell dulws;year 3;near 2", 0);
        for (int i = 0; i < 6; i++) {
            x.sheet(i, 3, 2 + i % 3, i % 4);
            x.edition(i);
            x.copy(i);
        }
        x.notice();
        x.correct(0, 0);
        x.step(9);
        x.step(10);
    }
}
