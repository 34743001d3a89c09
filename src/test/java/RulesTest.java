/** Promises 17 to 20: the text, rules, the rule of a day, which survey outranks which. */
public final class RulesTest {
    private static final Due due = new Due("RulesTest");

    public static void main(String[] args) {
        feed();
        ruleRefused();
        faults();
        fineTexts();
        ruledDefaults();
        ruledByOneClause();
        ruleOfDay();
        lastClauseCounts();
        outranks();
        outranksByRank();
        outranksByYears();
        due.end();
    }

    // Promise 17
    private static void feed() {
        FathomRoom x = new FathomRoom();
        due.is("17 n -1", x.feed(0, -1), -2);
        due.is("17 n 5", x.feed(0, 5), -2);
        due.is("17 n 0", x.feed(7, 0), 0);
        // "span", " 7" with higher bytes that do not come
        due.is("17 four", x.feed(0x7370616e, 4), 4);
        due.is("17 two", x.feed(0x12342037, 2), 6);
        due.is("17 rule", x.rule(0), 0);
        due.is("17 span", x.ruled(0, 3), 7);
        due.is("17 empty again", x.count(9), 0);
        for (int i = 1; i <= 29; i++) {
            due.is("17 fill", x.feed(-1, 4), 4 * i);
        }
        due.is("17 three more", x.feed(-1, 3), 119);
        due.is("17 two too many", x.feed(0, 2), -4);
        due.is("17 bad ahead of full", x.feed(0, 5), -2);
        due.is("17 the last", x.feed(0, 1), 120);
        due.is("17 full", x.feed(0, 1), -4);
        due.is("17 none fits", x.feed(0, 0), 120);
        due.is("17 count(9)", x.count(9), 120);
    }

    // Promise 18
    private static void ruleRefused() {
        FathomRoom x = new FathomRoom();
        Due.feed(x, "near 1");
        due.is("18 day -1", x.rule(-1), -2);
        due.is("18 day 10000", x.rule(10000), -2);
        due.is("18 the text stays", x.count(9), 6);
        due.is("18 day 9999", x.rule(9999), 0);
        due.is("18 empty", x.count(9), 0);
        due.is("18 an empty text ends too early", x.rule(0), -10);
        due.is("18 a fault", Due.rule(x, "neat", 0), -13);
        due.is("18 empty with a fault", x.count(9), 0);
        due.is("18 no rule more", x.count(3), 1);
        for (int i = 1; i < 10; i++) {
            due.is("18 rule " + i, Due.rule(x, "late 1", 0), i);
        }
        Due.feed(x, "x");
        due.is("18 bad ahead of full", x.rule(10000), -2);
        due.is("18 full ahead of the fault", x.rule(0), -4);
        due.is("18 the text stays", x.count(9), 1);
    }

    private static void fault(String text, int place) {
        FathomRoom x = new FathomRoom();
        due.is("18 fault of " + text, Due.rule(x, text, 0), -10 - place);
        due.is("18 no rule by " + text, x.count(3), 0);
        due.is("18 empty behind " + text, x.count(9), 0);
        due.is("18 nothing left of " + text, x.ruled(0, 6), 0);
    }

    private static void faults() {
        fault("", 0);
        fault(";", 0);
        fault(" near 1", 0);
        fault("Near 1", 0);
        fault("nea", 3);
        fault("near", 4);
        fault("near1", 4);
        fault("near ", 5);
        fault("near  1", 5);
        fault("near a", 5);
        fault("near -1", 5);
        fault("near 1 ", 6);
        fault("near 12a", 7);
        fault("near 1234", 8);
        fault("near 1;", 7);
        fault("near 1; near 2", 7);
        fault("near 1;;", 7);
        fault("near 1 ;year 2", 6);
        fault("yeer 1", 2);
        fault("year x", 5);
        fault("span /", 5);
        fault("span :", 5);
        fault("late", 4);
        fault("latter 1", 3);
        fault("rang lwe", 3);
        fault("rank ", 5);
        fault("rank l", 6);
        fault("rank lw", 7);
        fault("rank lwl", 7);
        fault("rank lww", 7);
        fault("rank ll", 6);
        fault("rank ewl1", 8);
        fault("rank ewle", 8);
        fault("rank 012", 5);
        fault("tell ", 5);
        fault("tell;", 4);
        fault("tell x", 5);
        fault("tell e", 5);
        for (char letter : "dulws".toCharArray()) {
            fault("tell " + letter + letter, 6);
            fault("tell dulws" + letter, 10);
            fault("tell swlud" + letter, 10);
        }
        fault("tell d u", 6);
        fault("tell dul;", 9);
        fault("tell dul;t", 10);
        fault("year 1;year 1;year 1;year 1;year 1;year 1;year 1;year 1;", 55);
        fault("year 1;year 1;year 1;year 1;year 1;year 1;year 1;year 1;year 1", 55);
        fault("year 1;year 1;year 1;year 1;year 1;year 1;year 1;year 1x", 55);
        fault("near 1;rank lwe;span x", 21);
        FathomRoom x = new FathomRoom();
        x.feed(0, 1);
        due.is("18 a byte 0", x.rule(0), -10);
        Due.feed(x, "near 1");
        x.feed(0xffffff00 | ';' | 128, 1);
        due.is("18 a high byte", x.rule(0), -16);
    }

    private static void fineTexts() {
        FathomRoom x = new FathomRoom();
        String[] fine = {"near 0", "near 007", "rank wel", "tell s", "tell swlud", "year 999;late 999",
            "year 1;year 1;year 1;year 1;year 1;year 1;year 1;year 1", "tell dulws;rank lwe;year 1;near 2;span 3;late 4"};
        for (int i = 0; i < fine.length; i++) {
            due.is("18 " + fine[i], Due.rule(x, fine[i], 0), i);
        }
        due.is("43 rules", x.count(3), fine.length);
    }

    // Promise 19
    private static void ruledDefaults() {
        FathomRoom x = new FathomRoom();
        int[] defaults = {-1, 999, 0, 0, 999, 210, 0};
        for (int what = 0; what < 7; what++) {
            due.is("19 without a rule " + what, x.ruled(5, what), defaults[what]);
        }
        due.is("19 what -1", x.ruled(0, -1), -5);
        due.is("19 what 7", x.ruled(0, 7), -5);
        due.is("19 day -1", x.ruled(-1, 0), -5);
        due.is("19 day 10000", x.ruled(10000, 0), -5);
        due.is("19 day 9999", x.ruled(9999, 0), -1);
        Due.rule(x, "near 5", 3);
        int[] near = {0, 999, 5, 0, 999, 210, 0};
        for (int what = 0; what < 7; what++) {
            due.is("19 ahead of it " + what, x.ruled(2, what), defaults[what]);
            due.is("19 from that day on " + what, x.ruled(3, what), near[what]);
            due.is("19 on the last day " + what, x.ruled(9999, what), near[what]);
        }
        Due.rule(x, "rank wle;year 12;near 345;span 6;late 78;tell us", 4);
        int[] all = {1, 12, 345, 6, 78, 102, 8 + 64};
        for (int what = 0; what < 7; what++) {
            due.is("19 all " + what, x.ruled(4, what), all[what]);
        }
        Due.rule(x, "tell d", 5);
        int[] tells = {2, 999, 0, 0, 999, 210, 4};
        for (int what = 0; what < 7; what++) {
            due.is("19 not by the rule ahead " + what, x.ruled(5, what), tells[what]);
        }
        Due.rule(x, "tell lw", 6);
        due.is("19 kinds", x.ruled(6, 6), 16 + 32);
        String[] ranks = {"rank lwe", "rank lew", "rank wel", "rank ewl", "rank elw"};
        int[] digits = {12, 21, 120, 210, 201};
        for (int i = 0; i < 5; i++) {
            Due.rule(x, ranks[i], 7 + i);
            due.is("19 " + ranks[i], x.ruled(7 + i, 5), digits[i]);
        }
    }

    /** A CLAUSE sets what its word names alone. */
    private static void ruledByOneClause() {
        String[] texts = {"year 12", "near 12", "span 12", "late 12"};
        for (int i = 0; i < texts.length; i++) {
            FathomRoom x = new FathomRoom();
            Due.rule(x, texts[i], 0);
            int[] all = {0, 999, 0, 0, 999, 210, 0};
            all[i + 1] = 12;
            for (int what = 0; what < 7; what++) {
                due.is("19 " + texts[i] + " " + what, x.ruled(0, what), all[what]);
            }
        }
    }

    private static void ruleOfDay() {
        FathomRoom x = new FathomRoom();
        Due.rule(x, "near 1", 10);
        Due.rule(x, "near 2", 5);
        Due.rule(x, "near 3", 10);
        Due.rule(x, "near 4", 20);
        Due.rule(x, "near 5", 0);
        due.is("19 day 0", x.ruled(0, 0), 4);
        due.is("19 day 4", x.ruled(4, 2), 5);
        due.is("19 day 5", x.ruled(5, 0), 1);
        due.is("19 day 9", x.ruled(9, 2), 2);
        due.is("19 day 10: the greatest number", x.ruled(10, 0), 2);
        due.is("19 day 19", x.ruled(19, 2), 3);
        due.is("19 day 20", x.ruled(20, 0), 3);
        due.is("19 day 9999", x.ruled(9999, 0), 3);
    }

    private static void lastClauseCounts() {
        FathomRoom x = new FathomRoom();
        Due.rule(x, "near 1;tell du;rank lwe;near 2;tell l;rank elw;near 30", 0);
        due.is("19 near", x.ruled(0, 2), 30);
        due.is("19 rank", x.ruled(0, 5), 201);
        due.is("19 tell", x.ruled(0, 6), 16);
        due.is("19 year", x.ruled(0, 1), 999);
        // A text with a fault leaves nothing for the next one.
        Due.rule(x, "span 9;late 9;year 9;near 9;rank lwe;tell d;x", 1);
        due.is("19 next", Due.rule(x, "tell u", 1), 1);
        int[] next = {1, 999, 0, 0, 999, 210, 8};
        for (int what = 0; what < 7; what++) {
            due.is("19 next " + what, x.ruled(1, what), next[what]);
        }
        Due.rule(x, "tell dulws;tell dux", 2);
        Due.rule(x, "span 4", 2);
        due.is("19 nothing must be told", x.ruled(2, 6), 0);
        due.is("19 span", x.ruled(2, 3), 4);
    }

    // Promise 20
    private static void outranks() {
        FathomRoom x = new FathomRoom();
        x.survey(2, 5, 0);
        x.survey(2, 5, 0);
        due.is("20 no p", x.outranks(-1, 0, 0), -1);
        due.is("20 no p", x.outranks(2, 0, 0), -1);
        due.is("20 no q", x.outranks(0, -1, 0), -1);
        due.is("20 no q", x.outranks(0, 2, 0), -1);
        due.is("20 none ahead of bad", x.outranks(2, 2, -1), -1);
        due.is("20 day -1", x.outranks(0, 1, -1), -2);
        due.is("20 day 10000", x.outranks(0, 1, 10000), -2);
        due.is("20 one", x.outranks(1, 1, 0), -2);
        due.is("20 the greater number", x.outranks(1, 0, 9999), 1);
        due.is("20 the lesser number", x.outranks(0, 1, 0), 0);
    }

    private static void outranksByRank() {
        FathomRoom x = new FathomRoom();
        x.survey(0, 9, 0);
        x.survey(1, 8, 0);
        x.survey(2, 7, 0);
        // Without a rule: e, w, l.
        int[][] ewl = {{0, 0, 0}, {1, 0, 0}, {1, 1, 0}};
        int[][] lwe = {{0, 1, 1}, {0, 0, 1}, {0, 0, 0}};
        int[][] wle = {{0, 0, 1}, {1, 0, 1}, {0, 0, 0}};
        Due.rule(x, "rank lwe", 1);
        Due.rule(x, "rank wle", 2);
        for (int p = 0; p < 3; p++) {
            for (int q = 0; q < 3; q++) {
                if (p != q) {
                    due.is("20 ewl " + p + " " + q, x.outranks(p, q, 0), ewl[p][q]);
                    due.is("20 lwe " + p + " " + q, x.outranks(p, q, 1), lwe[p][q]);
                    due.is("20 wle " + p + " " + q, x.outranks(p, q, 2), wle[p][q]);
                }
            }
        }
    }

    private static void outranksByYears() {
        FathomRoom x = new FathomRoom();
        x.survey(2, 10, 0);
        x.survey(0, 14, 0);
        x.survey(0, 12, 0);
        Due.rule(x, "year 4", 1);
        Due.rule(x, "year 5", 2);
        Due.rule(x, "year 0", 3);
        due.is("20 by 4 of 4", x.outranks(1, 0, 1), 1);
        due.is("20 the other way", x.outranks(0, 1, 1), 0);
        due.is("20 by 4 of 5", x.outranks(1, 0, 2), 0);
        due.is("20 the other way", x.outranks(0, 1, 2), 1);
        due.is("20 by 2 of 0", x.outranks(2, 0, 3), 1);
        due.is("20 the other way", x.outranks(0, 2, 3), 0);
        due.is("20 alike ways: the greater year", x.outranks(1, 2, 2), 1);
        due.is("20 alike ways: the lesser year", x.outranks(2, 1, 2), 0);
        x.survey(2, 14, 0);
        due.is("20 alike years by year 0: by rank", x.outranks(1, 3, 3), 0);
        due.is("20 alike years by year 0: by rank", x.outranks(3, 1, 3), 1);
        FathomRoom z = new FathomRoom();
        z.survey(0, 5, 0);
        z.survey(0, 6, 0);
        z.survey(2, 5, 0);
        Due.rule(z, "year 1", 1);
        due.is("20 by one year, alike ways", z.outranks(1, 0, 0), 1);
        due.is("20 the other way", z.outranks(0, 1, 0), 0);
        due.is("20 by one year of none", z.outranks(1, 2, 0), 0);
        due.is("20 by one year of one", z.outranks(1, 2, 1), 1);
        due.is("20 the other way", z.outranks(2, 1, 1), 0);
        FathomRoom y = new FathomRoom();
        y.survey(0, 999, 0);
        y.survey(2, 0, 0);
        due.is("20 by 999 without a rule", y.outranks(0, 1, 0), 1);
        due.is("20 the other way", y.outranks(1, 0, 0), 0);
    }
}
