/** Counts the answers that are not the ones due; each test has one. */
final class Due {
    private final String test;
    private int checks;
    private int wrong;

    Due(String test) {
        this.test = test;
    }

    void is(String call, long got, long want) {
        checks++;
        if (got != want) {
            wrong++;
            System.out.println(test + ": " + call + " answered " + got + ", due is " + want);
        }
    }

    /** Ends the test: with exit code 1 if an answer was wrong. */
    void end() {
        System.out.println(test + ": " + checks + " answers, " + wrong + " not as due");
        if (wrong != 0 || checks == 0) {
            System.exit(1);
        }
    }

    /** Feeds a text, and answers what the last feed() did. */
    static int feed(FathomRoom x, String text) {
        int answer = x.count(9);
        for (int i = 0; i < text.length(); i++) {
            answer = x.feed(text.charAt(i), 1);
        }
        return answer;
    }

    static int rule(FathomRoom x, String text, int day) {
        feed(x, text);
        return x.rule(day);
    }
}
