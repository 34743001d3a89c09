/** The program and the Model, asked the same calls: no more than an object is good for. */
final class House {
    static final int CALLS = 512;

    private final Due due;
    private final FathomRoom x = new FathomRoom();
    private final Model model = new Model();
    private int calls;

    House(Due due) {
        this.due = due;
    }

    /** What the program answers; the Model has to answer so too. */
    int ask(String name, int... a) {
        calls++;
        if (calls > CALLS) {
            throw new IllegalStateException("a test asks more of an object than is promised");
        }
        int got = Calls.program(x, name, a);
        due.is(Calls.told(name, a), got, Calls.model(model, name, a));
        return got;
    }

    /** Asks what is due by the promise of this number. */
    void ask(int promise, int want, String name, int... a) {
        due.is(promise + " by " + Calls.told(name, a), ask(name, a), want);
    }

    void feed(String text) {
        for (int from = 0; from < text.length(); from += 4) {
            int n = Math.min(4, text.length() - from);
            int bytes = 0;
            for (int i = 0; i < n; i++) {
                bytes = bytes << 8 | text.charAt(from + i);
            }
            ask("feed", bytes, n);
        }
    }

    int rule(String text, int day) {
        feed(text);
        return ask("rule", day);
    }
}
