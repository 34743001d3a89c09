/** Calls by name, to the program and to the Model. */
final class Calls {
    /** In the order of their promises, from 2 on. */
    static final String[] NAMES = {"pass", "survey", "part", "gauge", "tide", "traffic", "sound", "line", "ended",
        "tell", "move", "end", "bare", "strike", "of", "feed", "rule", "ruled", "outranks", "water", "sheet", "shown",
        "judge", "edition", "printed", "lights", "notice", "noticed", "late", "copy", "correct", "stood", "worse", "step",
        "stepless", "go", "block", "plan", "act", "trace", "taken", "count", "tape", "item", "read", "blank", "shift"};

    private Calls() {
    }

    /** The number of the promise that tells of a call. */
    static int promise(String name) {
        for (int i = 0; i < NAMES.length; i++) {
            if (NAMES[i].equals(name)) {
                return i + 2;
            }
        }
        throw new IllegalArgumentException(name);
    }

    /** A call as it is written, with the number of its promise ahead. */
    static String told(String name, int... a) {
        StringBuilder s = new StringBuilder().append(promise(name)).append(' ').append(name).append('(');
        for (int i = 0; i < a.length; i++) {
            s.append(i == 0 ? "" : ", ").append(a[i]);
        }
        return s.append(')').toString();
    }

    static int program(FathomRoom x, String name, int... a) {
        switch (name) {
            case "pass":
                return x.pass(a[0]);
            case "survey":
                return x.survey(a[0], a[1], a[2]);
            case "part":
                return x.part(a[0], a[1], a[2], a[3]);
            case "gauge":
                return x.gauge(a[0], a[1]);
            case "tide":
                return x.tide(a[0], a[1]);
            case "traffic":
                return x.traffic(a[0], a[1]);
            case "sound":
                return x.sound(a[0], a[1], a[2], a[3]);
            case "line":
                return x.line(a[0], a[1], a[2], a[3], a[4], a[5], a[6]);
            case "ended":
                return x.ended();
            case "tell":
                return x.tell(a[0], a[1], a[2], a[3]);
            case "move":
                return x.move(a[0], a[1]);
            case "end":
                return x.end(a[0]);
            case "bare":
                return x.bare(a[0]);
            case "strike":
                return x.strike(a[0], a[1]);
            case "of":
                return x.of(a[0], a[1]);
            case "feed":
                return x.feed(a[0], a[1]);
            case "rule":
                return x.rule(a[0]);
            case "ruled":
                return x.ruled(a[0], a[1]);
            case "outranks":
                return x.outranks(a[0], a[1], a[2]);
            case "water":
                return x.water(a[0], a[1], a[2]);
            case "sheet":
                return x.sheet(a[0], a[1], a[2], a[3]);
            case "shown":
                return x.shown(a[0], a[1]);
            case "judge":
                return x.judge(a[0], a[1]);
            case "edition":
                return x.edition(a[0]);
            case "printed":
                return x.printed(a[0], a[1]);
            case "lights":
                return x.lights(a[0]);
            case "notice":
                return x.notice();
            case "noticed":
                return x.noticed(a[0], a[1]);
            case "late":
                return x.late();
            case "copy":
                return x.copy(a[0]);
            case "correct":
                return x.correct(a[0], a[1]);
            case "stood":
                return x.stood(a[0], a[1], a[2]);
            case "worse":
                return x.worse(a[0], a[1], a[2]);
            case "step":
                return x.step(a[0]);
            case "stepless":
                return x.stepless();
            case "go":
                return x.go(a[0], a[1], a[2], a[3]);
            case "block":
                return x.block(a[0], a[1]);
            case "plan":
                return x.plan(a[0], a[1]);
            case "act":
                return x.act(a[0], a[1], a[2]);
            case "trace":
                return x.trace(a[0]);
            case "taken":
                return x.taken(a[0], a[1]);
            case "count":
                return x.count(a[0]);
            case "tape":
                return x.tape(a[0], a[1], a[2]);
            case "item":
                return x.item(a[0], a[1], a[2]);
            case "read":
                return x.read(a[0], a[1]);
            case "blank":
                return x.blank(a[0], a[1]);
            case "shift":
                return x.shift(a[0], a[1], a[2], a[3], a[4]);
            default:
                throw new IllegalArgumentException(name);
        }
    }

    static int model(Model x, String name, int... a) {
        switch (name) {
            case "pass":
                return x.pass(a[0]);
            case "survey":
                return x.survey(a[0], a[1], a[2]);
            case "part":
                return x.part(a[0], a[1], a[2], a[3]);
            case "gauge":
                return x.gauge(a[0], a[1]);
            case "tide":
                return x.tide(a[0], a[1]);
            case "traffic":
                return x.traffic(a[0], a[1]);
            case "sound":
                return x.sound(a[0], a[1], a[2], a[3]);
            case "line":
                return x.line(a[0], a[1], a[2], a[3], a[4], a[5], a[6]);
            case "ended":
                return x.ended();
            case "tell":
                return x.tell(a[0], a[1], a[2], a[3]);
            case "move":
                return x.move(a[0], a[1]);
            case "end":
                return x.end(a[0]);
            case "bare":
                return x.bare(a[0]);
            case "strike":
                return x.strike(a[0], a[1]);
            case "of":
                return x.of(a[0], a[1]);
            case "feed":
                return x.feed(a[0], a[1]);
            case "rule":
                return x.rule(a[0]);
            case "ruled":
                return x.ruled(a[0], a[1]);
            case "outranks":
                return x.outranks(a[0], a[1], a[2]);
            case "water":
                return x.water(a[0], a[1], a[2]);
            case "sheet":
                return x.sheet(a[0], a[1], a[2], a[3]);
            case "shown":
                return x.shown(a[0], a[1]);
            case "judge":
                return x.judge(a[0], a[1]);
            case "edition":
                return x.edition(a[0]);
            case "printed":
                return x.printed(a[0], a[1]);
            case "lights":
                return x.lights(a[0]);
            case "notice":
                return x.notice();
            case "noticed":
                return x.noticed(a[0], a[1]);
            case "late":
                return x.late();
            case "copy":
                return x.copy(a[0]);
            case "correct":
                return x.correct(a[0], a[1]);
            case "stood":
                return x.stood(a[0], a[1], a[2]);
            case "worse":
                return x.worse(a[0], a[1], a[2]);
            case "step":
                return x.step(a[0]);
            case "stepless":
                return x.stepless();
            case "go":
                return x.go(a[0], a[1], a[2], a[3]);
            case "block":
                return x.block(a[0], a[1]);
            case "plan":
                return x.plan(a[0], a[1]);
            case "act":
                return x.act(a[0], a[1], a[2]);
            case "trace":
                return x.trace(a[0]);
            case "taken":
                return x.taken(a[0], a[1]);
            case "count":
                return x.count(a[0]);
            case "tape":
                return x.tape(a[0], a[1], a[2]);
            case "item":
                return x.item(a[0], a[1], a[2]);
            case "read":
                return x.read(a[0], a[1]);
            case "blank":
                return x.blank(a[0], a[1]);
            case "shift":
                return x.shift(a[0], a[1], a[2], a[3], a[4]);
            default:
                throw new IllegalArgumentException(name);
        }
    }
}
