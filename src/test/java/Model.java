import java.util.ArrayList;
import java.util.HashMap;
import java.util.HashSet;
import java.util.List;
import java.util.Map;
import java.util.Set;
import java.util.TreeMap;
import java.util.regex.Matcher;
import java.util.regex.Pattern;

/**
 * The document once more, in another way: by orders of calls, the host's own rows and refusals,
 * patterns and inheritance. RandomTest holds the program against it.
 */
final class Model {
    static final int NONE = -1, BAD = -2, STATE = -3, FULL = -4, NO = -1000000;

    // ---- kinds, with the bodies of acts

    static class Thing {
        Model model;
        int number;
        int kind;
        int cell;
        int survey;
        int feet;
        int told;
        int ended = -1;
        int toldOrder;
        int endedOrder = -1;

        int shows(int x) {
            model.trace.add(10);
            return x + cell;
        }

        int warns(int x) {
            model.trace.add(11);
            return shows(x) * 2;
        }

        int ends(int x) {
            model.trace.add(12);
            return warns(x) - number;
        }

        boolean stands(int day) {
            return told <= day && !(ended >= 0 && ended <= day);
        }
    }

    static class Depth extends Thing {
        @Override
        int shows(int x) {
            model.trace.add(20);
            return super.shows(x) + feet;
        }
    }

    static class Danger extends Depth {
        @Override
        int warns(int x) {
            model.trace.add(30);
            return super.warns(x) ^ feet;
        }

        @Override
        int ends(int x) {
            model.trace.add(31);
            return super.ends(x + 1);
        }
    }

    static class Doubt extends Danger {
        @Override
        int shows(int x) {
            model.trace.add(40);
            return super.shows(x) - 7;
        }
    }

    static class Light extends Thing {
        @Override
        int warns(int x) {
            model.trace.add(50);
            return shows(x) + super.warns(x);
        }
    }

    static class Wreck extends Danger {
        @Override
        int ends(int x) {
            model.trace.add(60);
            return super.ends(x) + warns(x);
        }
    }

    static class Struck extends Thing {
        @Override
        int shows(int x) {
            model.trace.add(70);
            return -super.shows(x);
        }
    }

    private static final Class<?>[] KINDS = {
        Thing.class, Depth.class, Danger.class, Doubt.class, Light.class, Wreck.class, Struck.class
    };

    private static Thing ofKind(int kind) {
        switch (kind) {
            case 1:
                return new Depth();
            case 2:
                return new Danger();
            case 3:
                return new Doubt();
            case 4:
                return new Light();
            case 5:
                return new Wreck();
            default:
                return new Struck();
        }
    }

    record Survey(int way, int year, int span) { }

    record Part(int amplitude, int period, int phase) { }

    record Rule(int number, int day, Map<String, String> clauses) {
        int value(String word, int without) {
            return clauses.containsKey(word) ? Integer.parseInt(clauses.get(word)) : without;
        }

        String rank() {
            return clauses.getOrDefault("rank", "ewl");
        }

        boolean mustTell(int kind) {
            return kind >= 2 && clauses.getOrDefault("tell", "").indexOf("dulws".charAt(kind - 2)) >= 0;
        }
    }

    record Sheet(int cell, int rows, int columns, int scale, List<Integer> cells) { }

    record Edition(int sheet, Map<Integer, Integer> shown, int lights, int order) { }

    record Notice(int day, int order, List<Integer> told, List<Integer> ended) { }

    record Correction(int notice, int day) { }

    record Copy(Edition edition, int sold, List<Correction> corrections) { }

    private int today;
    private int order;
    private final List<Survey> surveys = new ArrayList<>();
    private final List<List<Part>> gauges = List.of(new ArrayList<>(), new ArrayList<>(), new ArrayList<>(), new ArrayList<>());
    private final Map<Integer, Integer> gaugeOf = new HashMap<>();
    private final Map<Integer, Integer> traffic = new HashMap<>();
    private final List<Thing> things = new ArrayList<>();
    private int lineEnd = -1;
    private String text = "";
    private final List<Rule> rules = new ArrayList<>();
    private final List<Sheet> sheets = new ArrayList<>();
    private final List<Edition> editions = new ArrayList<>();
    private final List<Notice> notices = new ArrayList<>();
    private final List<Copy> copies = new ArrayList<>();
    private final List<Integer> way = new ArrayList<>();
    private final Object[] tapes = new Object[6];
    final List<Integer> trace = new ArrayList<>();

    private static boolean in(int n, int least, int most) {
        return n >= least && n <= most;
    }

    private static boolean cell(int c) {
        return in(c, 0, 47);
    }

    private static int distance(int a, int b) {
        return Math.max(Math.abs((a >> 3) - (b >> 3)), Math.abs((a & 7) - (b & 7)));
    }

    // ---- the sea

    int pass(int n) {
        if (!in(n, 1, 400) || today + n > 9999) {
            return BAD;
        }
        return today += n;
    }

    int survey(int w, int year, int span) {
        if (!in(w, 0, 2) || !in(year, 0, 999) || !in(span, 0, 9)) {
            return BAD;
        }
        if (surveys.size() == 12) {
            return FULL;
        }
        surveys.add(new Survey(w, year, span));
        return surveys.size() - 1;
    }

    int part(int gauge, int amplitude, int period, int phase) {
        if (!in(gauge, 0, 3)) {
            return NONE;
        }
        if (!in(amplitude, 1, 30) || !in(period, 2, 40) || !in(phase, 0, 39)) {
            return BAD;
        }
        List<Part> parts = gauges.get(gauge);
        if (parts.size() == 4) {
            return FULL;
        }
        parts.add(new Part(amplitude, period, phase));
        return parts.size();
    }

    int gauge(int c, int gauge) {
        if (!cell(c) || !in(gauge, -1, 3)) {
            return -5;
        }
        Integer before = gaugeOf.put(c, gauge);
        return before == null ? -1 : before;
    }

    private int tideThere(int c, int hour) {
        int gauge = gaugeOf.getOrDefault(c, -1);
        int sum = 0;
        if (gauge >= 0) {
            for (Part p : gauges.get(gauge)) {
                int off = Math.abs((hour + p.phase) % p.period * 2 - p.period);
                sum += (int) Math.floor((double) (p.amplitude * off) / p.period + 1e-9);
            }
        }
        return sum;
    }

    int tide(int c, int hour) {
        return cell(c) && in(hour, 0, 99999) ? tideThere(c, hour) : NO;
    }

    int traffic(int c, int n) {
        if (!cell(c)) {
            return NONE;
        }
        if (!in(n, 0, 99)) {
            return BAD;
        }
        Integer before = traffic.put(c, n);
        return before == null ? 0 : before;
    }

    // ---- things

    private int add(int kind, int survey, int c, int feet) {
        Thing t = ofKind(kind);
        t.model = this;
        t.number = things.size();
        t.kind = kind;
        t.cell = c;
        t.survey = survey;
        t.feet = feet;
        t.told = today;
        t.toldOrder = ++order;
        things.add(t);
        return t.number;
    }

    private void finish(Thing t) {
        t.ended = today;
        t.endedOrder = ++order;
    }

    private boolean full() {
        return things.size() == 90;
    }

    int sound(int survey, int c, int hour, int feet) {
        if (!in(survey, 0, surveys.size() - 1) || !cell(c)) {
            return NONE;
        }
        if (!in(hour, 0, 99999) || !in(feet, 0, 999) || !in(feet - tideThere(c, hour), -99, 999)) {
            return BAD;
        }
        return full() ? FULL : add(1, survey, c, feet - tideThere(c, hour));
    }

    int line(int survey, int c, int direction, int hour, int tape, int i, int n) {
        if (!in(survey, 0, surveys.size() - 1) || !cell(c) || !in(tape, 0, 5)) {
            return NONE;
        }
        if (!in(direction, 0, 3) || !in(hour, 0, 99999) || !in(n, 1, 48)) {
            return BAD;
        }
        if (tapes[tape] != null && !(tapes[tape] instanceof double[])) {
            return -12;
        }
        int told = 0;
        int row = c / 8;
        int column = c % 8;
        lineEnd = 0;
        for (int k = 0; k < n; k++, hour++) {
            double[] reals = (double[]) tapes[tape];
            if (reals == null) {
                lineEnd = 1;
            } else if ((long) i + k < 0 || (long) i + k >= reals.length) {
                lineEnd = 2;
            } else if (!in(row, 0, 5) || !in(column, 0, 7)) {
                lineEnd = 3;
            } else if (!Double.isNaN(reals[i + k])) {
                int feet = (int) Math.floor(reals[i + k]) - tideThere(row * 8 + column, hour);
                if (!in(feet, -99, 999)) {
                    lineEnd = 4;
                } else if (full()) {
                    lineEnd = 5;
                } else {
                    add(1, survey, row * 8 + column, feet);
                    told++;
                }
            }
            if (lineEnd != 0) {
                return told;
            }
            column += direction == 0 ? 1 : direction == 2 ? -1 : 0;
            row += direction == 1 ? 1 : direction == 3 ? -1 : 0;
        }
        return told;
    }

    int ended() {
        return lineEnd < 0 ? STATE : lineEnd;
    }

    int tell(int kind, int survey, int c, int feet) {
        if (!in(survey, 0, surveys.size() - 1) || !cell(c)) {
            return NONE;
        }
        if (!in(kind, 2, 5) || !in(feet, -99, 999) || kind == 4 && feet != 0) {
            return BAD;
        }
        return full() ? FULL : add(kind, survey, c, feet);
    }

    private boolean thing(int t) {
        return in(t, 0, things.size() - 1);
    }

    int move(int t, int c) {
        if (!thing(t) || !cell(c)) {
            return NONE;
        }
        Thing one = things.get(t);
        if (!(one instanceof Wreck) || one.cell == c) {
            return BAD;
        }
        if (one.ended >= 0) {
            return STATE;
        }
        if (full()) {
            return FULL;
        }
        finish(one);
        return add(5, one.survey, c, one.feet);
    }

    int end(int t) {
        if (!thing(t)) {
            return NONE;
        }
        Thing one = things.get(t);
        if (!(one instanceof Light || one instanceof Danger) || one instanceof Doubt) {
            return BAD;
        }
        if (one.ended >= 0) {
            return STATE;
        }
        finish(one);
        return 1;
    }

    private int uncovered(Thing doubt) {
        int w = ruleOf(today).value("span", 0);
        Set<Integer> bare = new HashSet<>();
        for (int c = 0; c < 48; c++) {
            if (distance(c, doubt.cell) <= 1) {
                bare.add(c);
            }
        }
        for (Thing t : things) {
            if (t.kind == 1 && t.number > doubt.number && t.stands(today)
                    && surveys.get(t.survey).span <= w && t.feet - w > doubt.feet) {
                bare.remove(t.cell);
            }
        }
        return bare.size();
    }

    int bare(int t) {
        if (!thing(t)) {
            return NONE;
        }
        Thing one = things.get(t);
        if (!(one instanceof Doubt)) {
            return BAD;
        }
        return one.ended >= 0 ? STATE : uncovered(one);
    }

    int strike(int t, int survey) {
        if (!thing(t) || !in(survey, 0, surveys.size() - 1)) {
            return NONE;
        }
        Thing one = things.get(t);
        if (!(one instanceof Doubt)) {
            return BAD;
        }
        if (one.ended >= 0 || uncovered(one) > 0) {
            return STATE;
        }
        if (full()) {
            return FULL;
        }
        finish(one);
        return add(6, survey, one.cell, 0);
    }

    int of(int t, int what) {
        if (!thing(t) || !in(what, 0, 5)) {
            return NO;
        }
        Thing one = things.get(t);
        return new int[] {one.kind, one.cell, one.survey, one.feet, one.told, one.ended}[what];
    }

    // ---- rules

    private static final Pattern TEXT = Pattern.compile(pattern());

    private static String pattern() {
        StringBuilder tell = new StringBuilder();
        orders("", "dulws", tell);
        String clause = "(?:rank (?:lwe|lew|wle|wel|elw|ewl)|(?:year|near|span|late) [0-9]{1,3}|tell (?:" + tell + "))";
        return clause + "(?:;" + clause + "){0,7}";
    }

    private static void orders(String ahead, String rest, StringBuilder all) {
        for (int i = 0; i < rest.length(); i++) {
            String one = ahead + rest.charAt(i);
            all.append(all.length() == 0 ? "" : "|").append(one);
            orders(one, rest.substring(0, i) + rest.substring(i + 1), all);
        }
    }

    int feed(int bytes, int n) {
        if (!in(n, 0, 4)) {
            return BAD;
        }
        if (text.length() + n > 120) {
            return FULL;
        }
        StringBuilder more = new StringBuilder();
        for (int i = 0; i < n; i++) {
            more.insert(0, (char) (bytes & 255));
            bytes >>>= 8;
        }
        text += more;
        return text.length();
    }

    private static boolean begins(String s) {
        Matcher m = TEXT.matcher(s);
        return m.matches() || m.hitEnd();
    }

    int rule(int day) {
        if (!in(day, 0, 9999)) {
            return BAD;
        }
        if (rules.size() == 10) {
            return FULL;
        }
        String s = text;
        text = "";
        if (!TEXT.matcher(s).matches()) {
            int fault = 0;
            while (fault < s.length() && begins(s.substring(0, fault + 1))) {
                fault++;
            }
            return -10 - fault;
        }
        Map<String, String> clauses = new HashMap<>();
        for (String clause : s.split(";")) {
            clauses.put(clause.substring(0, 4), clause.substring(5));
        }
        rules.add(new Rule(rules.size(), day, clauses));
        return rules.size() - 1;
    }

    private Rule ruleOf(int day) {
        TreeMap<Integer, Rule> byDay = new TreeMap<>();
        for (Rule r : rules) {
            byDay.put(r.day, r);
        }
        Map.Entry<Integer, Rule> found = byDay.floorEntry(day);
        return found == null ? new Rule(-1, 0, Map.of()) : found.getValue();
    }

    int ruled(int day, int what) {
        if (!in(day, 0, 9999) || !in(what, 0, 6)) {
            return -5;
        }
        Rule r = ruleOf(day);
        int kinds = 0;
        for (int kind = 0; kind <= 6; kind++) {
            kinds += r.mustTell(kind) ? 1 << kind : 0;
        }
        int rank = 0;
        for (char letter : r.rank().toCharArray()) {
            rank = 10 * rank + "lwe".indexOf(letter);
        }
        return new int[] {r.number, r.value("year", 999), r.value("near", 0), r.value("span", 0),
            r.value("late", 999), rank, kinds}[what];
    }

    private boolean above(int p, int q, int day) {
        Rule r = ruleOf(day);
        Survey a = surveys.get(p);
        Survey b = surveys.get(q);
        int n = r.value("year", 999);
        if (a.year > b.year && a.year >= b.year + n) {
            return true;
        }
        if (b.year > a.year && b.year >= a.year + n) {
            return false;
        }
        if (a.way != b.way) {
            return r.rank().indexOf("lwe".charAt(a.way)) < r.rank().indexOf("lwe".charAt(b.way));
        }
        return a.year != b.year ? a.year > b.year : p > q;
    }

    int outranks(int p, int q, int day) {
        if (!in(p, 0, surveys.size() - 1) || !in(q, 0, surveys.size() - 1)) {
            return NONE;
        }
        if (!in(day, 0, 9999) || p == q) {
            return BAD;
        }
        return above(p, q, day) ? 1 : 0;
    }

    // ---- water, sheets

    /** WATER, the THING by which, how many QUARREL, THE BEST's THING; null if there is no DEPTH. */
    private int[] weigh(int c, int day) {
        TreeMap<Integer, Thing> latest = new TreeMap<>();
        for (Thing t : things) {
            if (t.kind == 1 && t.cell == c && t.stands(day)) {
                latest.put(t.survey, t);
            }
        }
        Thing best = null;
        long most = -1;
        for (int p : latest.keySet()) {
            long beaten = latest.keySet().stream().filter(q -> q != p && above(p, q, day)).count();
            if (beaten >= most) {
                most = beaten;
                best = latest.get(p);
            }
        }
        if (best == null) {
            return null;
        }
        List<Thing> counted = new ArrayList<>();
        for (Thing t : latest.values()) {
            if (t != best && Math.abs(t.feet - best.feet) > surveys.get(t.survey).span + surveys.get(best.survey).span) {
                counted.add(t);
            }
        }
        int quarrels = counted.size();
        counted.sort((a, b) -> a.number - b.number);
        counted.add(0, best);
        Thing by = best;
        for (Thing t : counted) {
            by = t.feet < by.feet ? t : by;
        }
        return new int[] {by.feet, by.number, quarrels, best.number};
    }

    private int leastWater(int c, int day) {
        int[] w = weigh(c, day);
        int least = w == null ? Integer.MAX_VALUE : w[0];
        for (Thing t : things) {
            if (t instanceof Danger && t.cell == c && t.stands(day)) {
                least = Math.min(least, t.feet);
            }
        }
        return least == Integer.MAX_VALUE ? NO : least;
    }

    int water(int c, int day, int what) {
        if (!cell(c) || !in(day, 0, 9999) || !in(what, 0, 4)) {
            return NO;
        }
        int[] w = weigh(c, day);
        return what == 4 ? leastWater(c, day) : w == null ? NO : w[what];
    }

    int sheet(int c, int rows, int columns, int scale) {
        if (!cell(c) || !in(rows, 1, 4) || !in(columns, 1, 4) || rows * columns > 12 || !in(scale, 0, 3)) {
            return BAD;
        }
        List<Integer> cells = new ArrayList<>();
        for (int i = 0; i < rows * columns; i++) {
            int row = c / 8 + i / columns;
            int column = c % 8 + i % columns;
            if (row > 5 || column > 7) {
                return BAD;
            }
            cells.add(row * 8 + column);
        }
        if (sheets.size() == 16) {
            return FULL;
        }
        sheets.add(new Sheet(c, rows, columns, scale, cells));
        return sheets.size() - 1;
    }

    /** The first CELL amiss with a set, or -1. */
    private int amiss(Sheet s, int bits, int[] least, int near) {
        for (int i = 0; i < least.length; i++) {
            boolean of = (bits & 1 << i) != 0;
            boolean done = of || least[i] == NO;
            for (int j = 0; j < least.length && !done; j++) {
                done = (bits & 1 << j) != 0 && least[j] != NO && least[j] - least[i] <= near
                        && distance(s.cells.get(i), s.cells.get(j)) <= s.scale;
            }
            if (!done || of && least[i] == NO) {
                return i;
            }
        }
        return -1;
    }

    private int[] leastOf(Sheet s, int day) {
        return s.cells.stream().mapToInt(c -> leastWater(c, day)).toArray();
    }

    private int shownBits(Sheet s, int day) {
        int[] least = leastOf(s, day);
        int near = ruleOf(day).value("near", 0);
        for (int size = 0; size <= least.length; size++) {
            for (int bits = 0; bits < 1 << least.length; bits++) {
                if (Integer.bitCount(bits) == size && amiss(s, bits, least, near) == -1) {
                    return bits;
                }
            }
        }
        throw new IllegalStateException("all CELLS with water always do");
    }

    int shown(int s, int day) {
        return in(s, 0, sheets.size() - 1) && in(day, 0, 9999) ? shownBits(sheets.get(s), day) : -5;
    }

    int judge(int s, int bits) {
        if (!in(s, 0, sheets.size() - 1) || bits < 0 || bits >> sheets.get(s).cells.size() != 0) {
            return -5;
        }
        Sheet one = sheets.get(s);
        return amiss(one, bits, leastOf(one, today), ruleOf(today).value("near", 0));
    }

    int edition(int s) {
        if (!in(s, 0, sheets.size() - 1)) {
            return NONE;
        }
        if (editions.size() == 60) {
            return FULL;
        }
        Sheet one = sheets.get(s);
        int bits = shownBits(one, today);
        Map<Integer, Integer> shown = new HashMap<>();
        for (int i = 0; i < one.cells.size(); i++) {
            if ((bits >> i & 1) != 0) {
                shown.put(one.cells.get(i), leastWater(one.cells.get(i), today));
            }
        }
        int lights = 0;
        for (Thing t : things) {
            lights += t instanceof Light && one.cells.contains(t.cell) && t.stands(today) ? 1 : 0;
        }
        editions.add(new Edition(s, shown, lights, ++order));
        return editions.size() - 1;
    }

    int printed(int e, int c) {
        return in(e, 0, editions.size() - 1) ? editions.get(e).shown.getOrDefault(c, NO) : NO;
    }

    int lights(int e) {
        return in(e, 0, editions.size() - 1) ? editions.get(e).lights : NONE;
    }

    int notice() {
        int ahead = notices.isEmpty() ? 0 : notices.get(notices.size() - 1).order;
        Notice n = new Notice(today, ++order, new ArrayList<>(), new ArrayList<>());
        for (Thing t : things) {
            if (ruleOf(today).mustTell(t.kind)) {
                if (t.toldOrder > ahead) {
                    n.told.add(t.number);
                }
                if (t.ended >= 0 && t.endedOrder > ahead) {
                    n.ended.add(t.number);
                }
            }
        }
        if (n.told.isEmpty() && n.ended.isEmpty()) {
            return STATE;
        }
        if (notices.size() == 60) {
            return FULL;
        }
        notices.add(n);
        return notices.size() - 1;
    }

    int noticed(int n, int i) {
        if (!in(n, 0, notices.size() - 1)) {
            return NONE;
        }
        List<Integer> items = new ArrayList<>(notices.get(n).told);
        notices.get(n).ended.forEach(t -> items.add(t + 100));
        return in(i, 0, items.size() - 1) ? items.get(i) : NONE;
    }

    int late() {
        Set<Integer> late = new HashSet<>();
        for (Notice n : notices) {
            for (int t : n.told) {
                if (n.day - things.get(t).told > ruleOf(n.day).value("late", 999)) {
                    late.add(t);
                }
            }
        }
        return late.size();
    }

    // ---- copies

    int copy(int s) {
        if (!in(s, 0, sheets.size() - 1)) {
            return NONE;
        }
        Edition latest = null;
        for (Edition e : editions) {
            latest = e.sheet == s ? e : latest;
        }
        if (latest == null) {
            return STATE;
        }
        if (copies.size() == 24) {
            return FULL;
        }
        copies.add(new Copy(latest, today, new ArrayList<>()));
        return copies.size() - 1;
    }

    private int corrections() {
        return copies.stream().mapToInt(c -> c.corrections.size()).sum();
    }

    int correct(int c, int n) {
        if (!in(c, 0, copies.size() - 1) || !in(n, 0, notices.size() - 1)) {
            return NONE;
        }
        for (Correction made : copies.get(c).corrections) {
            if (made.notice >= n) {
                return STATE;
            }
        }
        if (corrections() == 99) {
            return FULL;
        }
        copies.get(c).corrections.add(new Correction(n, today));
        return corrections();
    }

    private int stands(Copy copy, int c, int day) {
        if (!sheets.get(copy.edition.sheet).cells.contains(c)) {
            return NO;
        }
        int upTo = -1;
        for (Correction made : copy.corrections) {
            upTo = made.day <= day ? made.notice : upTo;
        }
        Set<Integer> told = new HashSet<>();
        for (int n = 0; n <= upTo; n++) {
            if (notices.get(n).order > copy.edition.order) {
                told.addAll(notices.get(n).told);
                told.removeAll(notices.get(n).ended);
            }
        }
        int least = copy.edition.shown.getOrDefault(c, Integer.MAX_VALUE);
        for (int t : told) {
            if (things.get(t) instanceof Danger && things.get(t).cell == c) {
                least = Math.min(least, things.get(t).feet);
            }
        }
        return least == Integer.MAX_VALUE ? NO : least;
    }

    int stood(int copy, int c, int day) {
        if (!in(copy, 0, copies.size() - 1) || !cell(c) || !in(day, copies.get(copy).sold, 9999)) {
            return NO;
        }
        return stands(copies.get(copy), c, day);
    }

    int worse(int copy, int c, int day) {
        if (!in(copy, 0, copies.size() - 1) || !cell(c) || !in(day, copies.get(copy).sold, today)) {
            return -5;
        }
        int worse = 0;
        for (int d = 0; d <= day; d++) {
            if (d >= copies.get(copy).sold && d >= day - 99) {
                int on = stands(copies.get(copy), c, d);
                int knew = on == NO ? NO : leastWater(c, d);
                worse += on != NO && knew != NO && on > knew ? 1 : 0;
            }
        }
        return worse;
    }

    // ---- ways, plans

    int step(int c) {
        if (!cell(c)) {
            return NONE;
        }
        if (!way.isEmpty() && distance(way.get(way.size() - 1), c) != 1) {
            return BAD;
        }
        if (way.size() == 20) {
            return FULL;
        }
        way.add(c);
        return way.size();
    }

    int stepless() {
        int before = way.size();
        way.clear();
        return before;
    }

    int go(int copy, int draught, int hour, int what) {
        if (!in(copy, 0, copies.size() - 1) || way.isEmpty() || !in(draught, 0, 99) || !in(hour, 0, 99000) || !in(what, 0, 3)) {
            return NO;
        }
        List<Integer> spares = new ArrayList<>();
        Set<Integer> near = new HashSet<>();
        for (int k = 0; k < way.size(); k++) {
            int stands = stands(copies.get(copy), way.get(k), today);
            spares.add((stands == NO ? 999 : stands) + tideThere(way.get(k), hour + k) - draught);
            for (Thing t : things) {
                if (t instanceof Danger && t.stands(today) && distance(t.cell, way.get(k)) <= 1) {
                    near.add(t.cell);
                }
            }
        }
        int least = spares.stream().min(Integer::compare).get();
        int aground = (int) spares.stream().filter(s -> s < 0).count();
        return new int[] {least, spares.indexOf(least), near.size(), aground}[what];
    }

    private int[] riskAndCost(int block) {
        int risk = 0;
        int cost = 3;
        for (int c = 0; c < 48; c++) {
            if (c / 16 == block / 4 && c % 8 / 2 == block % 4) {
                int times = 0;
                for (Thing t : things) {
                    times += t instanceof Doubt && t.cell == c && t.stands(today) ? 1 : 0;
                }
                if (weigh(c, today) == null) {
                    times++;
                    cost++;
                }
                risk += traffic.getOrDefault(c, 0) * times;
            }
        }
        return new int[] {risk, cost};
    }

    int block(int block, int what) {
        return in(block, 0, 11) && in(what, 0, 1) ? riskAndCost(block)[what] : NONE;
    }

    int plan(int days, int what) {
        if (!in(days, 0, 99) || !in(what, 0, 2)) {
            return -5;
        }
        int[][] blocks = new int[12][];
        for (int b = 0; b < 12; b++) {
            blocks[b] = riskAndCost(b);
        }
        int[] best = {-1, 0, 0};
        for (int bits = 0; bits < 4096; bits++) {
            int risk = 0;
            int cost = 0;
            for (int b = 0; b < 12; b++) {
                risk += (bits >> b & 1) * blocks[b][0];
                cost += (bits >> b & 1) * blocks[b][1];
            }
            if (cost <= days && (risk > best[0] || risk == best[0] && cost < best[1])) {
                best = new int[] {risk, cost, bits};
            }
        }
        return best[what];
    }

    // ---- acts, tapes

    int act(int t, int act, int x) {
        trace.clear();
        if (!thing(t) || !in(act, 0, 2)) {
            return 0;
        }
        Thing one = things.get(t);
        return act == 0 ? one.shows(x) : act == 1 ? one.warns(x) : one.ends(x);
    }

    int trace(int i) {
        return in(i, 0, Math.min(trace.size(), 20) - 1) ? trace.get(i) : NONE;
    }

    int taken(int t, int k) {
        if (!in(k, 0, 6)) {
            return BAD;
        }
        if (!thing(t)) {
            return -11;
        }
        return KINDS[k].isInstance(things.get(t)) ? things.get(t).kind : -12;
    }

    int count(int what) {
        int[] counts = {today, surveys.size(), things.size(), rules.size(), sheets.size(), editions.size(),
            notices.size(), copies.size(), corrections(), text.length(), way.size(), trace.size()};
        return in(what, 0, 11) ? counts[what] : BAD;
    }

    int tape(int tape, int sort, int n) {
        if (!in(tape, 0, 5)) {
            return NONE;
        }
        if (!in(sort, -1, 3) || sort >= 0 && n > 60) {
            return BAD;
        }
        try {
            switch (sort) {
                case 0 -> tapes[tape] = new byte[n];
                case 1 -> tapes[tape] = new short[n];
                case 2 -> tapes[tape] = new int[n];
                case 3 -> tapes[tape] = new double[n];
                default -> tapes[tape] = null;
            }
        } catch (NegativeArraySizeException e) {
            return -14;
        }
        return 1;
    }

    int item(int tape, int i, int v) {
        if (!in(tape, 0, 5)) {
            return NONE;
        }
        try {
            java.lang.reflect.Array.get(tapes[tape], i);
        } catch (NullPointerException e) {
            return -11;
        } catch (ArrayIndexOutOfBoundsException e) {
            return -13;
        }
        if (tapes[tape] instanceof byte[] bytes) {
            bytes[i] = (byte) v;
        } else if (tapes[tape] instanceof short[] shorts) {
            shorts[i] = (short) v;
        } else if (tapes[tape] instanceof int[] ints) {
            ints[i] = v;
        } else if (!in(v, -800000, 800000)) {
            return BAD;
        } else {
            ((double[]) tapes[tape])[i] = v / 8.0;
        }
        return 1;
    }

    int read(int tape, int i) {
        try {
            Object row = tapes[tape];
            if (row instanceof double[] reals) {
                return Double.isNaN(reals[i]) ? 999999999 : (int) (reals[i] * 8);
            }
            return java.lang.reflect.Array.getInt(row, i);
        } catch (NullPointerException | ArrayIndexOutOfBoundsException e) {
            return NO;
        }
    }

    int blank(int tape, int i) {
        if (!in(tape, 0, 5)) {
            return NONE;
        }
        if (tapes[tape] == null) {
            return -11;
        }
        try {
            ((double[]) tapes[tape])[i] = Double.NaN;
        } catch (ClassCastException e) {
            return -12;
        } catch (ArrayIndexOutOfBoundsException e) {
            return -13;
        }
        return 1;
    }

    @SuppressWarnings("SuspiciousSystemArraycopy")
    int shift(int tape, int i, int other, int j, int n) {
        if (!in(tape, 0, 5) || !in(other, 0, 5)) {
            return NONE;
        }
        try {
            System.arraycopy(tapes[tape], i, tapes[other], j, n);
        } catch (NullPointerException e) {
            return -11;
        } catch (ArrayStoreException e) {
            return -12;
        } catch (ArrayIndexOutOfBoundsException e) {
            return -13;
        }
        return n;
    }
}
