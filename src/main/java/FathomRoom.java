/**
 * A chart house: surveys and the THINGS they tell, rules in force by days, the water of cells,
 * sheets with their editions, notices and copies, ways of ships, blocks to sound next.
 * What each call answers is told by number in DOC.md.
 */
public final class FathomRoom {
    public static final int NONE = -1, BAD = -2, STATE = -3, FULL = -4;
    /** There is no such number. */
    public static final int NO = -1000000;

    // For calls to which -1 is an ordinary answer.
    private static final int NO_SUCH = -5;
    private static final int NOTHING = -11, CAST = -12, PLACE = -13, SIZE = -14;
    private static final int FAULT = -10;

    private static final int CELLS = 48, LAST_DAY = 9999, LAST_HOUR = 99999, LAST_START = 99000;
    private static final int LEAST_FEET = -99, MOST_FEET = 999;
    private static final int THING = 0, DEPTH = 1, DANGER = 2, DOUBT = 3, LIGHT = 4, WRECK = 5, STRUCK = 6;
    private static final int SHEETS = 16, EDITIONS = 60, COPIES = 24, CORRECTIONS = 99;
    private static final int WAY_CELLS = 20, TAPES = 6, BLOCKS = 12, BLOCK_SETS = 4096;
    private static final int LINE_NUMBERS = 48, WORSE_DAYS = 99, OPEN_SEA = 999;
    // Why a LINE ended.
    private static final int NO_LINE = -1, ALL_CAME = 0, NO_ROW = 1, NO_PLACE = 2, NO_SEA = 3, NO_FEET = 4, NO_ROOM = 5;

    private int today;
    private final Sea sea = new Sea();
    private final Rules rules = new Rules();
    private final Book book = new Book();
    private final Sheet[] sheets = new Sheet[SHEETS];
    private int sheetCount;
    private final Edition[] editions = new Edition[EDITIONS];
    private int editionCount;
    private final Copy[] copies = new Copy[COPIES];
    private int copyCount;
    private int correctionCount;
    private final int[] way = new int[WAY_CELLS];
    private int wayLength;
    private final Tape[] tapes = new Tape[TAPES];
    private int lineEnd = NO_LINE;
    private final Acts acts = new Acts();
    // By sets of BLOCKS as bits.
    private final int[] setRisk = new int[BLOCK_SETS];
    private final int[] setCost = new int[BLOCK_SETS];

    public FathomRoom() {
        for (int i = 0; i < SHEETS; i++) {
            sheets[i] = new Sheet();
        }
        for (int i = 0; i < EDITIONS; i++) {
            editions[i] = new Edition();
        }
        for (int i = 0; i < COPIES; i++) {
            copies[i] = new Copy();
        }
        for (int i = 0; i < TAPES; i++) {
            tapes[i] = new Tape();
        }
    }

    // ---- the sea

    public int pass(int n) {
        if (n < 1 || n > 400 || today + n > LAST_DAY) {
            return BAD;
        }
        today += n;
        return today;
    }

    public int survey(int way, int year, int span) {
        if (way < 0 || way > 2 || year < 0 || year > 999 || span < 0 || span > 9) {
            return BAD;
        }
        return book.addSurvey(way, year, span);
    }

    public int part(int gauge, int amplitude, int period, int phase) {
        if (!Sea.isGauge(gauge)) {
            return NONE;
        }
        if (amplitude < 1 || amplitude > 30 || period < 2 || period > 40 || phase < 0 || phase > 39) {
            return BAD;
        }
        return sea.addPart(gauge, amplitude, period, phase);
    }

    public int gauge(int cell, int gauge) {
        if (!Sea.isCell(cell) || !(gauge == -1 || Sea.isGauge(gauge))) {
            return NO_SUCH;
        }
        int before = sea.gauges[cell];
        sea.gauges[cell] = gauge;
        return before;
    }

    public int tide(int cell, int hour) {
        if (!Sea.isCell(cell) || !isHour(hour)) {
            return NO;
        }
        return sea.tideAt(cell, hour);
    }

    public int traffic(int cell, int n) {
        if (!Sea.isCell(cell)) {
            return NONE;
        }
        if (n < 0 || n > 99) {
            return BAD;
        }
        int before = sea.ships[cell];
        sea.ships[cell] = n;
        return before;
    }

    // ---- things

    public int sound(int survey, int cell, int hour, int feet) {
        if (book.surveyAt(survey) == null || !Sea.isCell(cell)) {
            return NONE;
        }
        if (!isHour(hour) || feet < 0 || feet > MOST_FEET || !isFeet(feet - sea.tideAt(cell, hour))) {
            return BAD;
        }
        return book.addThing(DEPTH, survey, cell, feet - sea.tideAt(cell, hour), today);
    }

    public int line(int survey, int cell, int direction, int hour, int tape, int i, int n) {
        Tape row = tapeAt(tape);
        if (book.surveyAt(survey) == null || !Sea.isCell(cell) || row == null) {
            return NONE;
        }
        if (direction < 0 || direction > 3 || !isHour(hour) || n < 1 || n > LINE_NUMBERS) {
            return BAD;
        }
        if (row.sort != Tape.EMPTY && row.sort != Tape.REALS) {
            return CAST;
        }
        int ahead = book.thingCount;
        int at = cell;
        lineEnd = ALL_CAME;
        for (int k = 0; k < n && lineEnd == ALL_CAME; k++) {
            lineEnd = soundNumber(survey, at, hour + k, row, i + k);
            at = Sea.next(at, direction);
        }
        return book.thingCount - ahead;
    }

    public int ended() {
        return lineEnd == NO_LINE ? STATE : lineEnd;
    }

    public int tell(int kind, int survey, int cell, int feet) {
        if (book.surveyAt(survey) == null || !Sea.isCell(cell)) {
            return NONE;
        }
        if (kind != LIGHT && !isHazard(kind)) {
            return BAD;
        }
        if (kind == LIGHT ? feet != 0 : !isFeet(feet)) {
            return BAD;
        }
        return book.addThing(kind, survey, cell, feet, today);
    }

    public int move(int thing, int cell) {
        Thing wreck = book.thingAt(thing);
        if (wreck == null || !Sea.isCell(cell)) {
            return NONE;
        }
        if (wreck.kind != WRECK || wreck.cell == cell) {
            return BAD;
        }
        if (wreck.isEnded()) {
            return STATE;
        }
        int moved = book.addThing(WRECK, wreck.survey, cell, wreck.feet, today);
        if (moved >= 0) {
            book.endThing(wreck, today);
        }
        return moved;
    }

    public int end(int thing) {
        Thing one = book.thingAt(thing);
        if (one == null) {
            return NONE;
        }
        if (one.kind != DANGER && one.kind != LIGHT && one.kind != WRECK) {
            return BAD;
        }
        if (one.isEnded()) {
            return STATE;
        }
        book.endThing(one, today);
        return 1;
    }

    public int bare(int thing) {
        Thing doubt = book.thingAt(thing);
        if (doubt == null) {
            return NONE;
        }
        if (doubt.kind != DOUBT) {
            return BAD;
        }
        if (doubt.isEnded()) {
            return STATE;
        }
        return bareCells(doubt);
    }

    public int strike(int thing, int survey) {
        Thing doubt = book.thingAt(thing);
        if (doubt == null || book.surveyAt(survey) == null) {
            return NONE;
        }
        if (doubt.kind != DOUBT) {
            return BAD;
        }
        if (doubt.isEnded() || bareCells(doubt) > 0) {
            return STATE;
        }
        int struck = book.addThing(STRUCK, survey, doubt.cell, 0, today);
        if (struck >= 0) {
            book.endThing(doubt, today);
        }
        return struck;
    }

    public int of(int thing, int what) {
        Thing one = book.thingAt(thing);
        if (one == null) {
            return NO;
        }
        switch (what) {
            case 0:
                return one.kind;
            case 1:
                return one.cell;
            case 2:
                return one.survey;
            case 3:
                return one.feet;
            case 4:
                return one.toldDay;
            case 5:
                return one.endedDay;
            default:
                return NO;
        }
    }

    // ---- rules

    public int feed(int bytes, int n) {
        if (n < 0 || n > 4) {
            return BAD;
        }
        return rules.addText(bytes, n);
    }

    public int rule(int day) {
        if (!isDay(day)) {
            return BAD;
        }
        return rules.addRule(day);
    }

    public int ruled(int day, int what) {
        if (!isDay(day)) {
            return NO_SUCH;
        }
        Rule rule = rules.on(day);
        switch (what) {
            case 0:
                return rule.number;
            case 1:
                return rule.year;
            case 2:
                return rule.near;
            case 3:
                return rule.span;
            case 4:
                return rule.late;
            case 5:
                return rule.rank;
            case 6:
                return rule.kinds;
            default:
                return NO_SUCH;
        }
    }

    public int outranks(int p, int q, int day) {
        if (book.surveyAt(p) == null || book.surveyAt(q) == null) {
            return NONE;
        }
        if (!isDay(day) || p == q) {
            return BAD;
        }
        return book.isAbove(p, q, rules.on(day)) ? 1 : 0;
    }

    // ---- water, sheets

    public int water(int cell, int day, int what) {
        if (!Sea.isCell(cell) || !isDay(day) || what < 0 || what > 4) {
            return NO;
        }
        if (what == 4) {
            return book.leastWater(cell, day, rules.on(day));
        }
        if (!book.weigh(cell, day, rules.on(day))) {
            return NO;
        }
        switch (what) {
            case 0:
                return book.feetOf(book.waterThing);
            case 1:
                return book.waterThing;
            case 2:
                return book.quarrels;
            default:
                return book.bestThing;
        }
    }

    public int sheet(int cell, int rows, int columns, int scale) {
        if (!Sea.isCell(cell) || rows < 1 || rows > 4 || columns < 1 || columns > 4 || scale < 0 || scale > 3) {
            return BAD;
        }
        if (rows * columns > Sheet.MOST_CELLS || !Sea.holds(cell, rows, columns)) {
            return BAD;
        }
        if (sheetCount >= SHEETS) {
            return FULL;
        }
        sheets[sheetCount].draw(cell, rows, columns, scale);
        sheetCount++;
        return sheetCount - 1;
    }

    public int shown(int sheet, int day) {
        Sheet one = sheetAt(sheet);
        if (one == null || !isDay(day)) {
            return NO_SUCH;
        }
        one.look(book, day, rules.on(day));
        return one.fewest();
    }

    public int judge(int sheet, int bits) {
        Sheet one = sheetAt(sheet);
        if (one == null || bits < 0 || bits >= 1 << one.size()) {
            return NO_SUCH;
        }
        one.look(book, today, rules.on(today));
        return one.firstAmiss(bits);
    }

    public int edition(int sheet) {
        Sheet one = sheetAt(sheet);
        if (one == null) {
            return NONE;
        }
        if (editionCount >= EDITIONS) {
            return FULL;
        }
        one.look(book, today, rules.on(today));
        editions[editionCount].print(sheet, one, book.countLights(one, today), book.noticeCount);
        one.edition = editionCount;
        editionCount++;
        return editionCount - 1;
    }

    public int printed(int edition, int cell) {
        Edition one = editionAt(edition);
        if (one == null) {
            return NO;
        }
        return printedIn(one, cell);
    }

    public int lights(int edition) {
        Edition one = editionAt(edition);
        return one == null ? NONE : one.lightCount;
    }

    public int notice() {
        return book.addNotice(today, rules.on(today).kinds);
    }

    public int noticed(int notice, int i) {
        return book.itemOf(notice, i);
    }

    public int late() {
        return book.countLate(rules);
    }

    // ---- copies

    public int copy(int sheet) {
        Sheet one = sheetAt(sheet);
        if (one == null) {
            return NONE;
        }
        if (one.edition < 0) {
            return STATE;
        }
        if (copyCount >= COPIES) {
            return FULL;
        }
        copies[copyCount].sell(one.edition, today);
        copyCount++;
        return copyCount - 1;
    }

    public int correct(int copy, int notice) {
        Copy one = copyAt(copy);
        if (one == null || notice < 0 || notice >= book.noticeCount) {
            return NONE;
        }
        if (one.noticeBy(today) >= notice) {
            return STATE;
        }
        if (correctionCount >= CORRECTIONS) {
            return FULL;
        }
        one.correctUpTo(notice, today);
        correctionCount++;
        return correctionCount;
    }

    public int stood(int copy, int cell, int day) {
        Copy one = copyAt(copy);
        if (one == null || !Sea.isCell(cell) || !isDay(day) || day < one.sold) {
            return NO;
        }
        return standsOn(one, cell, day);
    }

    public int worse(int copy, int cell, int day) {
        Copy one = copyAt(copy);
        if (one == null || !Sea.isCell(cell) || day < one.sold || day > today) {
            return NO_SUCH;
        }
        int days = 0;
        for (int d = Math.max(one.sold, day - WORSE_DAYS); d <= day; d++) {
            int stands = standsOn(one, cell, d);
            int knew = book.leastWater(cell, d, rules.on(d));
            if (stands != NO && knew != NO && stands > knew) {
                days++;
            }
        }
        return days;
    }

    // ---- ways, plans

    public int step(int cell) {
        if (!Sea.isCell(cell)) {
            return NONE;
        }
        if (wayLength > 0 && wayLength <= WAY_CELLS && Sea.distance(way[wayLength - 1], cell) != 1) {
            return BAD;
        }
        if (wayLength >= WAY_CELLS) {
            return FULL;
        }
        way[wayLength] = cell;
        wayLength++;
        return wayLength;
    }

    public int stepless() {
        int before = wayLength;
        wayLength = 0;
        return before;
    }

    public int go(int copy, int draught, int hour, int what) {
        Copy one = copyAt(copy);
        if (one == null || what < 0 || what > 3 || wayLength == 0) {
            return NO;
        }
        if (draught < 0 || draught > 99 || hour < 0 || hour > LAST_START) {
            return NO;
        }
        return what == 2 ? countNear() : sail(one, draught, hour, what);
    }

    public int block(int block, int what) {
        if (block < 0 || block >= BLOCKS || what < 0 || what > 1) {
            return NONE;
        }
        return what == 0 ? riskOf(block) : costOf(block);
    }

    public int plan(int days, int what) {
        if (days < 0 || days > 99 || what < 0 || what > 2) {
            return NO_SUCH;
        }
        addUpSets();
        int best = bestSet(days);
        if (what == 2) {
            return best;
        }
        return what == 0 ? setRisk[best] : setCost[best];
    }

    // ---- acts, tapes

    public int act(int thing, int act, int x) {
        return acts.perform(book.thingAt(thing), act, x);
    }

    public int trace(int i) {
        return acts.bodyAt(i);
    }

    public int taken(int thing, int k) {
        if (k < THING || k > STRUCK) {
            return BAD;
        }
        Thing one = book.thingAt(thing);
        if (one == null) {
            return NOTHING;
        }
        return one.isOf(k) ? one.kind : CAST;
    }

    public int count(int what) {
        switch (what) {
            case 0:
                return today;
            case 1:
                return book.surveyCount;
            case 2:
                return book.thingCount;
            case 3:
                return rules.ruleCount;
            case 4:
                return sheetCount;
            case 5:
                return editionCount;
            case 6:
                return book.noticeCount;
            case 7:
                return copyCount;
            case 8:
                return correctionCount;
            case 9:
                return rules.length;
            case 10:
                return wayLength;
            case 11:
                return acts.ran;
            default:
                return BAD;
        }
    }

    public int tape(int tape, int sort, int n) {
        Tape one = tapeAt(tape);
        if (one == null) {
            return NONE;
        }
        if (sort < Tape.EMPTY || sort > Tape.REALS) {
            return BAD;
        }
        if (sort == Tape.EMPTY) {
            one.clear(sort, 0);
            return 1;
        }
        if (n > Tape.MOST_ITEMS) {
            return BAD;
        }
        if (n < 0) {
            return SIZE;
        }
        one.clear(sort, n);
        return 1;
    }

    public int item(int tape, int i, int v) {
        Tape one = tapeAt(tape);
        if (one == null) {
            return NONE;
        }
        if (one.sort == Tape.EMPTY) {
            return NOTHING;
        }
        if (!one.has(i)) {
            return PLACE;
        }
        if (one.sort == Tape.REALS && (v < -Tape.MOST_EIGHTHS || v > Tape.MOST_EIGHTHS)) {
            return BAD;
        }
        one.put(i, v);
        return 1;
    }

    public int read(int tape, int i) {
        Tape one = tapeAt(tape);
        if (one == null || one.sort == Tape.EMPTY || !one.has(i)) {
            return NO;
        }
        return one.items[i];
    }

    public int blank(int tape, int i) {
        Tape one = tapeAt(tape);
        if (one == null) {
            return NONE;
        }
        if (one.sort == Tape.EMPTY) {
            return NOTHING;
        }
        if (one.sort != Tape.REALS) {
            return CAST;
        }
        if (!one.has(i)) {
            return PLACE;
        }
        one.items[i] = Tape.NO_NUMBER;
        return 1;
    }

    public int shift(int tape, int i, int other, int j, int n) {
        Tape from = tapeAt(tape);
        Tape to = tapeAt(other);
        if (from == null || to == null) {
            return NONE;
        }
        if (from.sort == Tape.EMPTY || to.sort == Tape.EMPTY) {
            return NOTHING;
        }
        if (from.sort != to.sort) {
            return CAST;
        }
        // Subtracted, for a sum could wrap around.
        if (n < 0 || i < 0 || j < 0 || i > from.length - n || j > to.length - n) {
            return PLACE;
        }
        System.arraycopy(from.items, i, to.items, j, n);
        return n;
    }

    // ---- what several calls share

    private static boolean isDay(int day) {
        return day >= 0 && day <= LAST_DAY;
    }

    private static boolean isHour(int hour) {
        return hour >= 0 && hour <= LAST_HOUR;
    }

    private static boolean isFeet(int feet) {
        return feet >= LEAST_FEET && feet <= MOST_FEET;
    }

    private static boolean isHazard(int kind) {
        return kind == DANGER || kind == DOUBT || kind == WRECK;
    }

    private static boolean hasBit(int bits, int i) {
        return (bits >> i & 1) == 1;
    }

    /** The lesser of two depths, either of which may be missing. */
    private static int lesser(int a, int b) {
        if (a == NO || b == NO) {
            return a == NO ? b : a;
        }
        return Math.min(a, b);
    }

    private Sheet sheetAt(int n) {
        return n >= 0 && n < sheetCount && n < SHEETS ? sheets[n] : null;
    }

    private Edition editionAt(int n) {
        return n >= 0 && n < editionCount && n < EDITIONS ? editions[n] : null;
    }

    private Copy copyAt(int n) {
        return n >= 0 && n < copyCount && n < COPIES ? copies[n] : null;
    }

    private Tape tapeAt(int n) {
        return n >= 0 && n < TAPES ? tapes[n] : null;
    }

    /** One number of a LINE: tells its DEPTH, and answers why the LINE ends there, if it does. */
    private int soundNumber(int survey, int cell, int hour, Tape row, int place) {
        if (row.sort == Tape.EMPTY) {
            return NO_ROW;
        }
        if (!row.has(place)) {
            return NO_PLACE;
        }
        if (!Sea.isCell(cell)) {
            return NO_SEA;
        }
        int eighths = row.items[place];
        if (eighths == Tape.NO_NUMBER) {
            return ALL_CAME;
        }
        int feet = Math.floorDiv(eighths, 8) - sea.tideAt(cell, hour);
        if (!isFeet(feet)) {
            return NO_FEET;
        }
        return book.addThing(DEPTH, survey, cell, feet, today) < 0 ? NO_ROOM : ALL_CAME;
    }

    private int bareCells(Thing doubt) {
        int span = rules.on(today).span;
        int bare = 0;
        for (int cell = 0; cell < CELLS; cell++) {
            if (Sea.distance(cell, doubt.cell) <= 1 && !book.isCovered(doubt, cell, span, today)) {
                bare++;
            }
        }
        return bare;
    }

    private int printedIn(Edition edition, int cell) {
        Sheet sheet = sheetAt(edition.sheet);
        int place = sheet == null ? -1 : sheet.placeOf(cell);
        return place >= 0 && place < Sheet.MOST_CELLS ? edition.least[place] : NO;
    }

    private int standsOn(Copy copy, int cell, int day) {
        Edition edition = editionAt(copy.edition);
        Sheet sheet = edition == null ? null : sheetAt(edition.sheet);
        if (sheet == null || sheet.placeOf(cell) < 0) {
            return NO;
        }
        return lesser(printedIn(edition, cell), book.leastNoticed(cell, edition.noticesAhead, copy.noticeBy(day)));
    }

    /** What 0: LEAST SPARE; 1: its place in THE WAY; 3: how many CELLS have SPARE below 0. */
    private int sail(Copy copy, int draught, int hour, int what) {
        int least = 0;
        int place = -1;
        int aground = 0;
        for (int k = 0; k < wayLength && k < WAY_CELLS; k++) {
            int stands = standsOn(copy, way[k], today);
            int spare = (stands == NO ? OPEN_SEA : stands) + sea.tideAt(way[k], hour + k) - draught;
            if (place < 0 || spare < least) {
                least = spare;
                place = k;
            }
            if (spare < 0) {
                aground++;
            }
        }
        if (what == 0) {
            return least;
        }
        return what == 1 ? place : aground;
    }

    private int countNear() {
        int near = 0;
        for (int cell = 0; cell < CELLS; cell++) {
            if (isByWay(cell) && book.leastHazard(cell, today) != NO) {
                near++;
            }
        }
        return near;
    }

    private boolean isByWay(int cell) {
        for (int k = 0; k < wayLength && k < WAY_CELLS; k++) {
            if (Sea.distance(way[k], cell) <= 1) {
                return true;
            }
        }
        return false;
    }

    private int riskOf(int block) {
        int risk = 0;
        for (int i = 0; i < 4; i++) {
            int cell = Sea.cellOfBlock(block, i);
            int times = book.countOf(DOUBT, cell, today) + (isUnsounded(cell) ? 1 : 0);
            risk += sea.shipsIn(cell) * times;
        }
        return risk;
    }

    private int costOf(int block) {
        int cost = 3;
        for (int i = 0; i < 4; i++) {
            if (isUnsounded(Sea.cellOfBlock(block, i))) {
                cost++;
            }
        }
        return cost;
    }

    /** Where no DEPTH STANDS today there is no WATER. */
    private boolean isUnsounded(int cell) {
        return book.countOf(DEPTH, cell, today) == 0;
    }

    private void addUpSets() {
        for (int block = 0; block < BLOCKS; block++) {
            setRisk[1 << block] = riskOf(block);
            setCost[1 << block] = costOf(block);
        }
        for (int set = 1; set < BLOCK_SETS; set++) {
            int rest = set & (set - 1);
            if (rest != 0) {
                setRisk[set] = setRisk[rest] + setRisk[set ^ rest];
                setCost[set] = setCost[rest] + setCost[set ^ rest];
            }
        }
    }

    private int bestSet(int days) {
        int best = 0;
        for (int set = 1; set < BLOCK_SETS; set++) {
            boolean better = setRisk[set] > setRisk[best]
                    || setRisk[set] == setRisk[best] && setCost[set] < setCost[best];
            if (better && setCost[set] <= days) {
                best = set;
            }
        }
        return best;
    }

    /** CELLS with their gauges and traffic, and the tides of the gauges. */
    private static final class Sea {
        private static final int COLUMNS = 8, GAUGES = 4, PARTS = 4;

        final int[] gauges = new int[CELLS];
        final int[] ships = new int[CELLS];
        // The parts of gauge g stand from PARTS * g on.
        private final int[] parts = new int[GAUGES];
        private final int[] amplitudes = new int[GAUGES * PARTS];
        private final int[] periods = new int[GAUGES * PARTS];
        private final int[] phases = new int[GAUGES * PARTS];

        Sea() {
            for (int cell = 0; cell < CELLS; cell++) {
                gauges[cell] = -1;
            }
        }

        static boolean isCell(int cell) {
            return cell >= 0 && cell < CELLS;
        }

        static boolean isGauge(int gauge) {
            return gauge >= 0 && gauge < GAUGES;
        }

        static int distance(int a, int b) {
            return Math.max(Math.abs(a / COLUMNS - b / COLUMNS), Math.abs(a % COLUMNS - b % COLUMNS));
        }

        /** The next CELL (0 right, 1 down, 2 left, 3 up), -1 beyond the sea. */
        static int next(int cell, int direction) {
            if (!isCell(cell)) {
                return -1;
            }
            int column = cell % COLUMNS;
            switch (direction) {
                case 0:
                    return column < COLUMNS - 1 ? cell + 1 : -1;
                case 1:
                    return cell + COLUMNS < CELLS ? cell + COLUMNS : -1;
                case 2:
                    return column > 0 ? cell - 1 : -1;
                default:
                    return cell >= COLUMNS ? cell - COLUMNS : -1;
            }
        }

        /** Whether a rectangle from a CELL on lies within the sea. */
        static boolean holds(int cell, int rows, int columns) {
            return cell % COLUMNS + columns <= COLUMNS && cell + COLUMNS * (rows - 1) < CELLS;
        }

        static int cellOfBlock(int block, int i) {
            int row = block / 4 * 2 + i / 2;
            int column = block % 4 * 2 + i % 2;
            return COLUMNS * row + column;
        }

        int shipsIn(int cell) {
            return isCell(cell) ? ships[cell] : 0;
        }

        int addPart(int gauge, int amplitude, int period, int phase) {
            if (!isGauge(gauge) || parts[gauge] >= PARTS) {
                return FULL;
            }
            int part = PARTS * gauge + parts[gauge];
            amplitudes[part] = amplitude;
            periods[part] = period;
            phases[part] = phase;
            parts[gauge]++;
            return parts[gauge];
        }

        int tideAt(int cell, int hour) {
            int gauge = isCell(cell) ? gauges[cell] : -1;
            if (!isGauge(gauge)) {
                return 0;
            }
            int sum = 0;
            for (int i = 0; i < parts[gauge] && i < PARTS; i++) {
                sum += tideOfPart(PARTS * gauge + i, hour);
            }
            return sum;
        }

        private int tideOfPart(int part, int hour) {
            int period = periods[part];
            if (period < 1) {
                return 0;
            }
            int twice = 2 * ((hour + phases[part]) % period);
            return amplitudes[part] * Math.abs(twice - period) / period;
        }
    }

    private static final class Survey {
        int way;
        int year;
        int span;
    }

    private static final class Thing {
        // For each KIND itself and the KINDS it stands under, as bits.
        private static final int[] LINEAGE = {
            0b0000001, 0b0000011, 0b0000111, 0b0001111, 0b0010001, 0b0100111, 0b1000001
        };

        final int number;
        int kind;
        int cell;
        int survey;
        int feet;
        int toldDay;
        int endedDay = -1;
        // How many NOTICES there were when it was told, ENDED: the number of the NOTICE that may tell so.
        int toldBehind;
        int endedBehind = -1;
        // The NOTICE that does tell so.
        int toldNotice = -1;
        int endedNotice = -1;

        Thing(int number) {
            this.number = number;
        }

        boolean isEnded() {
            return endedDay >= 0;
        }

        boolean standsOn(int day) {
            return toldDay <= day && (endedDay < 0 || endedDay > day);
        }

        boolean isOf(int k) {
            return kind >= THING && kind < LINEAGE.length && hasBit(LINEAGE[kind], k);
        }

        boolean isToldBetween(int first, int last) {
            return toldNotice >= first && toldNotice <= last;
        }

        boolean isEndedBetween(int first, int last) {
            return endedNotice >= first && endedNotice <= last;
        }
    }

    /** SURVEYS, THINGS and the NOTICES that tell of them. */
    private static final class Book {
        private static final int SURVEYS = 12, THINGS = 90, NOTICES = 60, ENDED_ITEM = 100;

        private final Survey[] surveys = new Survey[SURVEYS];
        int surveyCount;
        private final Thing[] things = new Thing[THINGS];
        int thingCount;
        private final int[] noticeDays = new int[NOTICES];
        int noticeCount;
        // What weigh() found: each SURVEY's latest DEPTH (-1: none), THE BEST, the THING by which WATER is.
        private final int[] latest = new int[SURVEYS];
        int bestThing = -1;
        int waterThing = -1;
        int quarrels;

        Book() {
            for (int i = 0; i < SURVEYS; i++) {
                surveys[i] = new Survey();
            }
            for (int i = 0; i < THINGS; i++) {
                things[i] = new Thing(i);
            }
        }

        Survey surveyAt(int n) {
            return n >= 0 && n < surveyCount && n < SURVEYS ? surveys[n] : null;
        }

        Thing thingAt(int n) {
            return n >= 0 && n < thingCount && n < THINGS ? things[n] : null;
        }

        int feetOf(int n) {
            Thing thing = thingAt(n);
            return thing == null ? NO : thing.feet;
        }

        int addSurvey(int way, int year, int span) {
            if (surveyCount >= SURVEYS) {
                return FULL;
            }
            Survey survey = surveys[surveyCount];
            survey.way = way;
            survey.year = year;
            survey.span = span;
            surveyCount++;
            return surveyCount - 1;
        }

        int addThing(int kind, int survey, int cell, int feet, int day) {
            if (thingCount >= THINGS) {
                return FULL;
            }
            Thing thing = things[thingCount];
            thing.kind = kind;
            thing.survey = survey;
            thing.cell = cell;
            thing.feet = feet;
            thing.toldDay = day;
            thing.toldBehind = noticeCount;
            thingCount++;
            return thing.number;
        }

        void endThing(Thing thing, int day) {
            thing.endedDay = day;
            thing.endedBehind = noticeCount;
        }

        boolean isCovered(Thing doubt, int cell, int span, int day) {
            for (int i = doubt.number + 1; i < thingCount; i++) {
                Thing thing = thingAt(i);
                if (isOne(thing, DEPTH, cell, day) && thing.feet > doubt.feet + span && spanOf(thing.survey) <= span) {
                    return true;
                }
            }
            return false;
        }

        /** How many of a KIND STAND in a CELL on a DAY. */
        int countOf(int kind, int cell, int day) {
            int count = 0;
            for (int i = 0; i < thingCount; i++) {
                if (isOne(thingAt(i), kind, cell, day)) {
                    count++;
                }
            }
            return count;
        }

        int countLights(Sheet sheet, int day) {
            int lights = 0;
            for (int i = 0; i < thingCount; i++) {
                Thing thing = thingAt(i);
                if (thing != null && thing.kind == LIGHT && sheet.placeOf(thing.cell) >= 0 && thing.standsOn(day)) {
                    lights++;
                }
            }
            return lights;
        }

        /** The least FEET of DANGERS, DOUBTS, WRECKS that STAND in a CELL on a DAY. */
        int leastHazard(int cell, int day) {
            int least = NO;
            for (int i = 0; i < thingCount; i++) {
                Thing thing = thingAt(i);
                if (thing != null && isHazard(thing.kind) && thing.cell == cell && thing.standsOn(day)) {
                    least = lesser(least, thing.feet);
                }
            }
            return least;
        }

        /** The least FEET of those that NOTICES from a first to a last one tell, and do not tell as ENDED. */
        int leastNoticed(int cell, int first, int last) {
            int least = NO;
            for (int i = 0; i < thingCount; i++) {
                Thing thing = thingAt(i);
                if (thing != null && isHazard(thing.kind) && thing.cell == cell
                        && thing.isToldBetween(first, last) && !thing.isEndedBetween(first, last)) {
                    least = lesser(least, thing.feet);
                }
            }
            return least;
        }

        int leastWater(int cell, int day, Rule rule) {
            int water = weigh(cell, day, rule) ? feetOf(waterThing) : NO;
            return lesser(water, leastHazard(cell, day));
        }

        /** Finds THE BEST and WATER of a CELL on a DAY: whether there is any. */
        boolean weigh(int cell, int day, Rule rule) {
            findLatest(cell, day);
            int best = bestSurvey(rule);
            bestThing = latestOf(best);
            waterThing = bestThing;
            quarrels = 0;
            for (int survey = 0; survey < surveyCount; survey++) {
                int thing = latestOf(survey);
                if (thing >= 0 && quarrel(thing, bestThing)) {
                    quarrels++;
                    takeIfLess(thing);
                }
            }
            return bestThing >= 0;
        }

        boolean isAbove(int p, int q, Rule rule) {
            Survey one = surveyAt(p);
            Survey other = surveyAt(q);
            if (one == null || other == null) {
                return false;
            }
            int years = one.year - other.year;
            if (years != 0 && Math.abs(years) >= rule.year) {
                return years > 0;
            }
            if (one.way != other.way) {
                return rule.ranksAhead(one.way, other.way);
            }
            return years != 0 ? years > 0 : p > q;
        }

        int addNotice(int day, int kinds) {
            if (countUntold(kinds) == 0) {
                return STATE;
            }
            if (noticeCount >= NOTICES) {
                return FULL;
            }
            for (int i = 0; i < thingCount; i++) {
                Thing thing = thingAt(i);
                if (thing != null && hasBit(kinds, thing.kind)) {
                    thing.toldNotice = thing.toldBehind == noticeCount ? noticeCount : thing.toldNotice;
                    thing.endedNotice = thing.endedBehind == noticeCount ? noticeCount : thing.endedNotice;
                }
            }
            noticeDays[noticeCount] = day;
            noticeCount++;
            return noticeCount - 1;
        }

        /** The i-th THING of a NOTICE, those told ahead of those ENDED. */
        int itemOf(int notice, int i) {
            if (notice < 0 || notice >= noticeCount || i < 0) {
                return NONE;
            }
            int left = i;
            for (int n = 0; n < thingCount; n++) {
                Thing thing = thingAt(n);
                if (thing != null && thing.toldNotice == notice && left-- == 0) {
                    return n;
                }
            }
            for (int n = 0; n < thingCount; n++) {
                Thing thing = thingAt(n);
                if (thing != null && thing.endedNotice == notice && left-- == 0) {
                    return n + ENDED_ITEM;
                }
            }
            return NONE;
        }

        int countLate(Rules rules) {
            int late = 0;
            for (int i = 0; i < thingCount; i++) {
                Thing thing = thingAt(i);
                int notice = thing == null ? -1 : thing.toldNotice;
                if (notice >= 0 && notice < noticeCount && notice < NOTICES
                        && noticeDays[notice] - thing.toldDay > rules.on(noticeDays[notice]).late) {
                    late++;
                }
            }
            return late;
        }

        private int countUntold(int kinds) {
            int untold = 0;
            for (int i = 0; i < thingCount; i++) {
                Thing thing = thingAt(i);
                if (thing != null && hasBit(kinds, thing.kind)
                        && (thing.toldBehind == noticeCount || thing.endedBehind == noticeCount)) {
                    untold++;
                }
            }
            return untold;
        }

        private int spanOf(int n) {
            Survey survey = surveyAt(n);
            return survey == null ? 0 : survey.span;
        }

        private int latestOf(int survey) {
            return survey >= 0 && survey < SURVEYS ? latest[survey] : -1;
        }

        private void findLatest(int cell, int day) {
            for (int survey = 0; survey < SURVEYS; survey++) {
                latest[survey] = -1;
            }
            for (int i = 0; i < thingCount; i++) {
                Thing thing = thingAt(i);
                if (isOne(thing, DEPTH, cell, day) && surveyAt(thing.survey) != null) {
                    latest[thing.survey] = i;
                }
            }
        }

        private int bestSurvey(Rule rule) {
            int best = -1;
            int most = 0;
            for (int p = 0; p < surveyCount; p++) {
                int beaten = latestOf(p) < 0 ? -1 : 0;
                for (int q = 0; q < surveyCount && beaten >= 0; q++) {
                    if (q != p && latestOf(q) >= 0 && isAbove(p, q, rule)) {
                        beaten++;
                    }
                }
                // Also if alike: of several the greatest number.
                if (beaten >= most) {
                    best = p;
                    most = beaten;
                }
            }
            return best;
        }

        private boolean quarrel(int a, int b) {
            Thing one = thingAt(a);
            Thing other = thingAt(b);
            if (one == null || other == null) {
                return false;
            }
            return Math.abs(one.feet - other.feet) > spanOf(one.survey) + spanOf(other.survey);
        }

        private void takeIfLess(int thing) {
            int feet = feetOf(thing);
            int least = feetOf(waterThing);
            if (feet < least || feet == least && waterThing != bestThing && thing < waterThing) {
                waterThing = thing;
            }
        }

        /** Whether it is of a KIND and STANDS in a CELL on a DAY. */
        private static boolean isOne(Thing thing, int kind, int cell, int day) {
            return thing != null && thing.kind == kind && thing.cell == cell && thing.standsOn(day);
        }
    }

    private static final class Rule {
        int number = -1;
        int day;
        int year;
        int near;
        int span;
        int late;
        // The letters' WAYS as three digits.
        int rank;
        // KINDS that must be told, as bits.
        int kinds;

        Rule() {
            clear();
        }

        /** As it is without a CLAUSE; a text with a FAULT may have left some of its own. */
        void clear() {
            year = 999;
            near = 0;
            span = 0;
            late = 999;
            rank = 210;
            kinds = 0;
        }

        /** Of two unlike WAYS. */
        boolean ranksAhead(int p, int q) {
            int first = rank / 100;
            if (p == first || q == first) {
                return p == first;
            }
            return p == rank / 10 % 10;
        }
    }

    /** THE TEXT and the RULES that were read from it. */
    private static final class Rules {
        private static final int RULES = 10, TEXT_BYTES = 120, CLAUSES = 8;
        private static final String WORDS = "rankyearnearspanlatetell";
        private static final int WORD_LETTERS = 4, WORD_COUNT = 6;
        private static final int RANK = 0, YEAR = 1, NEAR = 2, SPAN = 3, LATE = 4, TELL = 5;
        // In the order of the WAYS; in that of the KINDS from DANGER on.
        private static final String WAY_LETTERS = "lwe", KIND_LETTERS = "dulws";

        private final Rule[] rules = new Rule[RULES];
        int ruleCount;
        private final Rule unruled = new Rule();
        private final int[] text = new int[TEXT_BYTES];
        int length;
        // Where reading stands; what reading fails on stays there.
        private int place;

        Rules() {
            for (int i = 0; i < RULES; i++) {
                rules[i] = new Rule();
            }
        }

        int addText(int bytes, int n) {
            if (length + n > TEXT_BYTES) {
                return FULL;
            }
            for (int i = n - 1; i >= 0 && length < TEXT_BYTES; i--) {
                text[length] = (bytes >> (8 * i)) & 255;
                length++;
            }
            return length;
        }

        int addRule(int day) {
            if (ruleCount >= RULES) {
                return FULL;
            }
            Rule rule = rules[ruleCount];
            rule.clear();
            boolean fine = readClauses(rule);
            length = 0;
            if (!fine) {
                return FAULT - place;
            }
            rule.day = day;
            rule.number = ruleCount;
            ruleCount++;
            return rule.number;
        }

        Rule on(int day) {
            Rule found = unruled;
            for (int i = 0; i < ruleCount && i < RULES; i++) {
                if (rules[i].day <= day && (found == unruled || rules[i].day >= found.day)) {
                    found = rules[i];
                }
            }
            return found;
        }

        private boolean readClauses(Rule rule) {
            place = 0;
            for (int k = 1; k <= CLAUSES; k++) {
                if (!readClause(rule)) {
                    return false;
                }
                if (place == length) {
                    return true;
                }
                if (k == CLAUSES || !readByte(';')) {
                    return false;
                }
            }
            return false;
        }

        private boolean readClause(Rule rule) {
            int word = wordHere();
            if (word < 0 || !readWord(word) || !readByte(' ')) {
                return false;
            }
            if (word == RANK) {
                return readRank(rule);
            }
            return word == TELL ? readKinds(rule) : readNumber(rule, word);
        }

        /** The word whose first letter is next: no two have the same. */
        private int wordHere() {
            for (int word = 0; word < WORD_COUNT; word++) {
                if (here() == WORDS.charAt(WORD_LETTERS * word)) {
                    return word;
                }
            }
            return -1;
        }

        private boolean readWord(int word) {
            for (int i = 0; i < WORD_LETTERS; i++) {
                if (!readByte(WORDS.charAt(WORD_LETTERS * word + i))) {
                    return false;
                }
            }
            return true;
        }

        private boolean readRank(Rule rule) {
            int seen = 0;
            int rank = 0;
            for (int i = 0; i < 3; i++) {
                int way = letterHere(WAY_LETTERS);
                if (way < 0 || hasBit(seen, way)) {
                    return false;
                }
                seen |= 1 << way;
                rank = 10 * rank + way;
                place++;
            }
            rule.rank = rank;
            return true;
        }

        private boolean readKinds(Rule rule) {
            int kinds = 0;
            for (int i = 0; i < KIND_LETTERS.length(); i++) {
                int letter = letterHere(KIND_LETTERS);
                if (letter < 0 || hasBit(kinds, DANGER + letter)) {
                    break;
                }
                kinds |= 1 << (DANGER + letter);
                place++;
            }
            rule.kinds = kinds;
            return kinds != 0;
        }

        private boolean readNumber(Rule rule, int word) {
            int digits = 0;
            int n = 0;
            while (digits < 3 && here() >= '0' && here() <= '9') {
                n = 10 * n + here() - '0';
                digits++;
                place++;
            }
            if (digits == 0) {
                return false;
            }
            setNumber(rule, word, n);
            return true;
        }

        private static void setNumber(Rule rule, int word, int n) {
            switch (word) {
                case YEAR:
                    rule.year = n;
                    break;
                case NEAR:
                    rule.near = n;
                    break;
                case SPAN:
                    rule.span = n;
                    break;
                case LATE:
                    rule.late = n;
                    break;
                default:
                    break;
            }
        }

        /** The next byte, -1 at the end. */
        private int here() {
            return place >= 0 && place < length && place < TEXT_BYTES ? text[place] : -1;
        }

        private int letterHere(String letters) {
            for (int i = 0; i < letters.length(); i++) {
                if (here() == letters.charAt(i)) {
                    return i;
                }
            }
            return -1;
        }

        private boolean readByte(int sign) {
            if (here() != sign) {
                return false;
            }
            place++;
            return true;
        }
    }

    /** A rectangle of CELLS, with what it found there when it looked last. */
    private static final class Sheet {
        private static final int MOST_CELLS = 12;

        private int cell;
        private int rows;
        private int columns;
        private int scale;
        // Its latest.
        int edition = -1;
        final int[] least = new int[MOST_CELLS];
        // For each CELL which ones would show it, itself too, as bits.
        private final int[] showers = new int[MOST_CELLS];
        // CELLS with LEAST WATER, as bits.
        private int known;

        void draw(int cell, int rows, int columns, int scale) {
            this.cell = cell;
            this.rows = rows;
            this.columns = columns;
            this.scale = scale;
        }

        int size() {
            return Math.min(rows * columns, MOST_CELLS);
        }

        /** Which CELL of the rectangle it is, -1 if it is not of it. */
        int placeOf(int other) {
            if (!Sea.isCell(other)) {
                return -1;
            }
            int row = other / Sea.COLUMNS - cell / Sea.COLUMNS;
            int column = other % Sea.COLUMNS - cell % Sea.COLUMNS;
            if (row < 0 || row >= rows || column < 0 || column >= columns) {
                return -1;
            }
            return row * columns + column;
        }

        void look(Book book, int day, Rule rule) {
            known = 0;
            for (int i = 0; i < size(); i++) {
                least[i] = book.leastWater(cellAt(i), day, rule);
                known |= least[i] == NO ? 0 : 1 << i;
            }
            for (int i = 0; i < size(); i++) {
                showers[i] = showersOf(i, rule.near);
            }
        }

        /** The first CELL that a set does not show, or shows without LEAST WATER; -1: none. */
        int firstAmiss(int set) {
            for (int i = 0; i < size(); i++) {
                boolean amiss = hasBit(known, i) ? (showers[i] & set) == 0 : hasBit(set, i);
                if (amiss) {
                    return i;
                }
            }
            return -1;
        }

        int fewest() {
            int found = known;
            int fewest = Integer.bitCount(known);
            for (int set = 0; set <= known && set < 1 << MOST_CELLS; set++) {
                if (Integer.bitCount(set) < fewest && firstAmiss(set) < 0) {
                    found = set;
                    fewest = Integer.bitCount(set);
                }
            }
            return found;
        }

        private int cellAt(int i) {
            return columns < 1 ? -1 : cell + Sea.COLUMNS * (i / columns) + i % columns;
        }

        private int showersOf(int i, int near) {
            int bits = 0;
            for (int j = 0; j < size(); j++) {
                boolean shows = i == j || Sea.distance(cellAt(i), cellAt(j)) <= scale && least[j] <= least[i] + near;
                if (shows && least[j] != NO) {
                    bits |= 1 << j;
                }
            }
            return bits;
        }
    }

    private static final class Edition {
        int sheet = -1;
        // By places of the SHEET; NO where nothing is SHOWN.
        final int[] least = new int[Sheet.MOST_CELLS];
        int lightCount;
        // How many NOTICES there were: the number of the first one behind it.
        int noticesAhead;

        void print(int number, Sheet sheet, int lights, int notices) {
            this.sheet = number;
            int shown = sheet.fewest();
            for (int i = 0; i < Sheet.MOST_CELLS; i++) {
                least[i] = hasBit(shown, i) ? sheet.least[i] : NO;
            }
            lightCount = lights;
            noticesAhead = notices;
        }
    }

    private static final class Copy {
        int edition = -1;
        int sold;
        // Its CORRECTIONS: up to which NOTICE, on which DAY; both rise.
        private final int[] upTo = new int[CORRECTIONS];
        private final int[] days = new int[CORRECTIONS];
        private int corrections;

        void sell(int edition, int day) {
            this.edition = edition;
            sold = day;
        }

        void correctUpTo(int notice, int day) {
            if (corrections < CORRECTIONS) {
                upTo[corrections] = notice;
                days[corrections] = day;
                corrections++;
            }
        }

        /** The NOTICE that it was corrected up to by a DAY, -1 if it was not yet. */
        int noticeBy(int day) {
            int notice = -1;
            for (int i = 0; i < corrections && i < CORRECTIONS; i++) {
                if (days[i] <= day) {
                    notice = upTo[i];
                }
            }
            return notice;
        }
    }

    /** Reals are kept as eighths: no answer needs finer ones. */
    private static final class Tape {
        private static final int EMPTY = -1, BYTES = 0, SHORTS = 1, REALS = 3;
        private static final int MOST_ITEMS = 60, MOST_EIGHTHS = 800000, NO_NUMBER = 999999999;

        int sort = EMPTY;
        int length;
        final int[] items = new int[MOST_ITEMS];

        void clear(int sort, int length) {
            this.sort = sort;
            this.length = length;
            for (int i = 0; i < MOST_ITEMS; i++) {
                items[i] = 0;
            }
        }

        boolean has(int i) {
            return i >= 0 && i < length && i < MOST_ITEMS;
        }

        void put(int i, int v) {
            if (!has(i)) {
                return;
            }
            if (sort == BYTES) {
                items[i] = (byte) v;
            } else {
                items[i] = sort == SHORTS ? (short) v : v;
            }
        }
    }

    /** The bodies of acts, sought from a KIND on upwards, and THE TRACE of those that ran. */
    private static final class Acts {
        // By KINDS: the body of its own, or else of the next KIND above that has one.
        private static final int[] SHOWS = {10, 20, 20, 40, 10, 20, 70};
        private static final int[] WARNS = {11, 11, 30, 30, 50, 30, 11};
        private static final int[] ENDS = {12, 12, 31, 31, 12, 60, 12};
        // WRECK's ends goes deepest: seven bodies.
        private static final int DEEPEST = 12, KEPT = 20;

        private final int[] kept = new int[KEPT];
        int ran;

        int perform(Thing thing, int act, int x) {
            ran = 0;
            if (thing == null) {
                return 0;
            }
            switch (act) {
                case 0:
                    return shows(thing, thing.kind, x, 0);
                case 1:
                    return warns(thing, thing.kind, x, 0);
                case 2:
                    return ends(thing, thing.kind, x, 0);
                default:
                    return 0;
            }
        }

        int bodyAt(int i) {
            return i >= 0 && i < ran && i < KEPT ? kept[i] : NONE;
        }

        private int shows(Thing thing, int from, int x, int depth) {
            switch (begin(SHOWS, from, depth)) {
                case 10:
                    return x + thing.cell;
                case 20:
                    return shows(thing, THING, x, depth + 1) + thing.feet;
                case 40:
                    return shows(thing, DANGER, x, depth + 1) - 7;
                case 70:
                    return -shows(thing, THING, x, depth + 1);
                default:
                    return 0;
            }
        }

        private int warns(Thing thing, int from, int x, int depth) {
            switch (begin(WARNS, from, depth)) {
                case 11:
                    return shows(thing, thing.kind, x, depth + 1) * 2;
                case 30:
                    return warns(thing, DEPTH, x, depth + 1) ^ thing.feet;
                case 50:
                    return shows(thing, thing.kind, x, depth + 1) + warns(thing, THING, x, depth + 1);
                default:
                    return 0;
            }
        }

        private int ends(Thing thing, int from, int x, int depth) {
            switch (begin(ENDS, from, depth)) {
                case 12:
                    return warns(thing, thing.kind, x, depth + 1) - thing.number;
                case 31:
                    return ends(thing, DEPTH, x + 1, depth + 1);
                case 60:
                    return ends(thing, DANGER, x, depth + 1) + warns(thing, thing.kind, x, depth + 1);
                default:
                    return 0;
            }
        }

        /** The body that runs from a KIND on, put down in THE TRACE; 0: none, or too deep. */
        private int begin(int[] bodies, int from, int depth) {
            if (from < 0 || from >= bodies.length || depth > DEEPEST) {
                return 0;
            }
            if (ran >= 0 && ran < KEPT) {
                kept[ran] = bodies[from];
            }
            ran++;
            return bodies[from];
        }
    }
}
