import java.io.IOException;
import java.nio.file.Files;
import java.nio.file.Path;
import java.util.Arrays;
import java.util.HashSet;
import java.util.Set;

/**
 * Each sentence of the document that names a boundary case (too small, too large, empty, full, a wrap-around, a
 * refused call), quoted as it stands there, with calls on both sides of its bound. What can be gone through
 * whole is gone through whole, against the sentence's own words worked out here once more.
 */
public final class BoundaryTests {
    static final int NONE = -1, UNKNOWN = -1000001, OUTSIDE = -1000002, NOT = -1000003, FULL = -1000004;
    static final int LOW = Integer.MIN_VALUE, HIGH = Integer.MAX_VALUE;
    static final int[] ROWS = {-1, -1, 0, 1, 1, 1, 0, -1}, PLACES = {0, 1, 1, 1, 0, -1, -1, -1};
    static final String[] KINDS = {"most", "middle", "mean", "turns"};

    static String document = "", sentence = "";
    static int wrong = 0, checked = 0, sentences = 0;

    interface Call {
        int on(NineWheel x);
    }

    /** What follows is due by this sentence; it must stand in the document (its blanks and line ends are all one). */
    static void sentence(String words) {
        sentence = words;
        sentences++;
        if (document.isEmpty() || document.contains(words)) return;
        wrong++;
        System.out.println("not in the document: " + words);
    }

    static void due(String what, int got, int want) {
        checked++;
        if (got == want) return;
        wrong++;
        System.out.println("\"" + sentence + "\": " + what + " answered " + got + ", due is " + want);
    }

    static void alike(String what, String got, String want) {
        checked++;
        if (got.equals(want)) return;
        wrong++;
        System.out.println("\"" + sentence + "\": " + what + " left\n  " + got + "\nin place of\n  " + want);
    }

    static String many(int n, String s) {
        StringBuilder all = new StringBuilder();
        for (int i = 0; i < n; i++) all.append(s);
        return all.toString();
    }

    /** Eight bytes a call, so that an object's 512 calls go far. */
    static void say(NineWheel x, String text) {
        for (int from = 0; from < text.length(); from += 8) {
            String part = text.substring(from, Math.min(text.length(), from + 8));
            long bytes = 0;
            for (char c : part.toCharArray()) bytes = bytes << 8 | c;
            x.feed(part.length(), bytes);
        }
    }

    static int seaOf(NineWheel x, String text) {
        say(x, text);
        return x.sea();
    }

    static int ruleOf(NineWheel x, String text) {
        say(x, text);
        return x.rule();
    }

    static NineWheel at(String sea, String... rules) {
        NineWheel x = new NineWheel();
        if (seaOf(x, sea) < 0) due("the sea of this test: " + sea, x.fault(), NONE);
        for (String rule : rules) {
            if (ruleOf(x, rule) < 0) due("a rule of this test: " + rule, x.fault(), NONE);
        }
        return x;
    }

    /** Each SORT presses as told. */
    static NineWheel pressing(int[] presses, String sea, String... rules) {
        NineWheel x = at(sea, rules);
        for (int s = 0; s < presses.length; s++) x.way(s, 4, presses[s]);
        return x;
    }

    static int[] p(int... presses) {
        return presses;
    }

    static String crew(int... persons) {
        StringBuilder text = new StringBuilder();
        for (int n : persons) text.append("sort ").append(n).append(';');
        return text.toString();
    }

    static void seaSound(String text, int sorts) {
        NineWheel x = new NineWheel();
        due("sea() of '" + text + "'", seaOf(x, text), sorts);
        due("fault() of '" + text + "'", x.fault(), NONE);
    }

    static void seaFault(String text, int fault, int where) {
        NineWheel x = new NineWheel();
        due("sea() of '" + text + "'", seaOf(x, text), -10 - fault);
        due("fault() of '" + text + "'", x.fault(), where);
    }

    static void ruleSound(String text) {
        NineWheel x = new NineWheel();
        due("rule() of '" + text + "'", ruleOf(x, text), 0);
        due("fault() of '" + text + "'", x.fault(), NONE);
    }

    static void ruleFault(String text, int fault, int where) {
        NineWheel x = new NineWheel();
        due("rule() of '" + text + "'", ruleOf(x, text), -10 - fault);
        due("fault() of '" + text + "'", x.fault(), where);
    }

    static int far(int one, int other) {
        return Math.max(Math.abs(one / 8 - other / 8), Math.abs(one % 8 - other % 8));
    }

    /** The CELL that way; CELL itself, if there is none. */
    static int gone(int cell, int heading) {
        int row = cell / 8 + ROWS[heading], place = cell % 8 + PLACES[heading];
        return row < 0 || row > 7 || place < 0 || place > 7 ? cell : row * 8 + place;
    }

    static int turned(int heading, int turn) {
        return (heading + turn + 8) % 8;
    }

    // ---- Terms: refusals

    /** Something of all that an object holds. */
    static NineWheel laden() {
        NineWheel x = at("ship 5 4;rocks 0,62;drift 2 3;lag 1;sort 1 likes 5 5;sort 2 fears 1;", "most", "turns bar 1");
        x.way(0, 2, 3);
        x.log(-1);
        x.seed(99);
        x.keep(1);
        x.way(1, 4, 1);
        x.log(1);
        x.seed(7);
        say(x, "lag 2;");
        return x;
    }

    /** All that can be asked of an object; what it holds is spoilt by it. */
    static String all(NineWheel x, boolean textToo) {
        StringBuilder all = new StringBuilder();
        if (textToo) all.append(x.count(2)).append(" fault ").append(x.fault());
        for (int what = 0; what < 8; what++) all.append(' ').append(x.told(what));
        for (int c = 0; c < 64; c += 5) all.append(' ').append(x.worth(c, 1)).append(' ').append(x.worth(c, 2));
        all.append(" rules ").append(x.count(0));
        for (int r = 0; r < 4; r++) all.append(' ').append(x.counted(r, 5, 3, 2)).append(' ').append(x.run(r, 1));
        held(x, all.append(" now"));
        for (int i = 0; i < 2; i++) held(x, all.append(" image ").append(x.goBack(i)));
        if (textToo) all.append(" text ").append(x.sea()).append(' ').append(x.fault()).append(' ').append(x.told(4));
        return all.toString();
    }

    static void held(NineWheel x, StringBuilder all) {
        for (int s = 0; s < 6; s++) {
            for (int what = 0; what < 5; what++) all.append(' ').append(x.sort(s, what));
            all.append(' ').append(x.presses(s, 18, 6));
        }
        all.append(" log ").append(x.count(1)).append(' ').append(x.judge(0)).append(' ').append(x.judge(1));
        int seed = x.seed(1);
        all.append(" seed ").append(seed);
        x.seed(seed);
    }

    static void refused(int want, String what, Call call) {
        NineWheel x = laden();
        due(what, call.on(x), want);
        alike(what, all(x, true), all(laden(), true));
    }

    static void cellsThatThereAreNot() {
        sentence("UNKNOWN (a CELL, SORT, RULE, IMAGE that there is not; bits of such)");
        for (int c : p(-1, 64, 65, LOW, HIGH)) {
            refused(UNKNOWN, "worth of CELL " + c, x -> x.worth(c, 1));
            refused(UNKNOWN, "turns of CELL " + c, x -> x.turns(c, 0, 0, 0, 0));
            refused(UNKNOWN, "presses at CELL " + c, x -> x.presses(0, c, 0));
            refused(UNKNOWN, "counted at CELL " + c, x -> x.counted(0, c, 0, 0));
            refused(UNKNOWN, "comes to CELL " + c, x -> x.comes(0, c));
            refused(UNKNOWN, "best from CELL " + c, x -> x.best(1, c, 0, 1));
            refused(UNKNOWN, "sides, CELL " + c, x -> x.sides(0, c, 0));
        }
        for (int s : p(-1, 2, 5, 6, LOW, HIGH)) {
            refused(UNKNOWN, "SORT " + s, x -> x.sort(s, 0));
            refused(UNKNOWN, "WAY of SORT " + s, x -> x.way(s, 1, 0));
            refused(UNKNOWN, "presses of SORT " + s, x -> x.presses(s, 1, 0));
        }
        for (int i : p(-1, 2, 3, LOW, HIGH)) {
            refused(UNKNOWN, "keep " + i, x -> x.keep(i));
            refused(UNKNOWN, "goBack " + i, x -> x.goBack(i));
        }
        rulesThatThereAreNot();
        for (int set : p(-1, 4, 5, 7, 8, 64, LOW, LOW + 1, HIGH)) {
            refused(UNKNOWN, "worth to SET " + set, x -> x.worth(1, set));
            refused(UNKNOWN, "best for SET " + set, x -> x.best(set, 1, 0, 1));
            refused(UNKNOWN, "course for SET " + set, x -> x.course(set, 1, 0));
            refused(UNKNOWN, "value for SET " + set, x -> x.value(0, set, 1));
            refused(UNKNOWN, "gain of SET " + set, x -> x.gain(0, set, 1));
            refused(UNKNOWN, "bestRule for SET " + set, x -> x.bestRule(set, 1, 0));
        }
    }

    static void rulesThatThereAreNot() {
        for (int r : p(-1, 2, 3, 4, LOW, HIGH)) {
            refused(UNKNOWN, "counted by RULE " + r, x -> x.counted(r, 1, 0, 0));
            refused(UNKNOWN, "run by RULE " + r, x -> x.run(r, 0));
            refused(UNKNOWN, "at by RULE " + r, x -> x.at(r, 0, 0));
            refused(UNKNOWN, "comes by RULE " + r, x -> x.comes(r, 0));
            refused(UNKNOWN, "judge of RULE " + r, x -> x.judge(r));
            refused(UNKNOWN, "value by RULE " + r, x -> x.value(r, 1, 1));
            refused(UNKNOWN, "gain by RULE " + r, x -> x.gain(r, 1, 1));
            refused(UNKNOWN, "pact by RULE " + r, x -> x.pact(r, 1));
            refused(UNKNOWN, "sides by RULE " + r, x -> x.sides(r, 1, 0));
            refused(UNKNOWN, "voyage by RULE " + r, x -> x.voyage(r, 0, 1));
        }
    }

    static void numbersOutOfBounds() {
        sentence("OUTSIDE (another number out of its bounds)");
        for (int h : p(-1, 8, LOW, HIGH)) {
            refused(OUTSIDE, "turns by HEADING " + h, x -> x.turns(1, h, 0, 0, 0));
            refused(OUTSIDE, "presses by HEADING " + h, x -> x.presses(0, 1, h));
            refused(OUTSIDE, "counted by HEADING " + h, x -> x.counted(0, 1, h, 0));
            refused(OUTSIDE, "best by HEADING " + h, x -> x.best(1, 1, h, 1));
            refused(OUTSIDE, "told " + h, x -> x.told(h));
        }
        for (int hour : p(-1, 1000, LOW, HIGH)) {
            refused(OUTSIDE, "turns in HOUR " + hour, x -> x.turns(1, 0, hour, 0, 0));
            refused(OUTSIDE, "counted in HOUR " + hour, x -> x.counted(0, 1, 0, hour));
        }
        for (int t : p(-1, 401, LOW, HIGH)) refused(OUTSIDE, "at HOUR " + t, x -> x.at(0, t, 0));
        for (int turn : p(-2, 2, LOW, HIGH)) {
            refused(OUTSIDE, "turns of TURN " + turn, x -> x.turns(1, 0, 0, turn, 0));
            refused(OUTSIDE, "log of TURN " + turn, x -> x.log(turn));
        }
        for (int t : p(0, -1, 25, LOW, HIGH)) {
            refused(OUTSIDE, "best, T " + t, x -> x.best(1, 1, 0, t));
            refused(OUTSIDE, "course, T " + t, x -> x.course(1, t, 0));
            refused(OUTSIDE, "value, T " + t, x -> x.value(0, 1, t));
            refused(OUTSIDE, "gain, T " + t, x -> x.gain(0, 1, t));
            refused(OUTSIDE, "bestRule, T " + t, x -> x.bestRule(1, t, 0));
        }
        for (int t : p(0, -1, 13, 24, LOW, HIGH)) refused(OUTSIDE, "pact, T " + t, x -> x.pact(0, t));
        for (int what : p(-1, 3, LOW, HIGH)) {
            refused(OUTSIDE, "turns, what " + what, x -> x.turns(1, 0, 0, 0, what));
            refused(OUTSIDE, "run, what " + what, x -> x.run(0, what));
            refused(OUTSIDE, "sides, what " + what, x -> x.sides(0, 1, what));
            refused(OUTSIDE, "count " + what, x -> x.count(what));
        }
        for (int what : p(-1, 2, LOW, HIGH)) {
            refused(OUTSIDE, "at, what " + what, x -> x.at(0, 0, what));
            refused(OUTSIDE, "bestRule, what " + what, x -> x.bestRule(1, 1, what));
        }
        for (int what : p(-1, 5, LOW, HIGH)) refused(OUTSIDE, "sort, what " + what, x -> x.sort(0, what));
        for (int v : p(-1, LOW)) refused(OUTSIDE, "seed " + v, x -> x.seed(v));
        for (int n : p(0, 9, -1, LOW, HIGH)) refused(OUTSIDE, "feed " + n, x -> x.feed(n, 59));
        for (int q : p(-1, 101, LOW, HIGH)) refused(OUTSIDE, "voyage, q " + q, x -> x.voyage(0, q, 1));
        for (int n : p(0, -1, 100, LOW, HIGH)) refused(OUTSIDE, "voyage, n " + n, x -> x.voyage(0, 0, n));
    }

    static void notNow() {
        sentence("NOT (not now, as told)");
        for (int rock : p(0, 62)) {
            refused(NOT, "turns from a rock", x -> x.turns(rock, 7, 999, 1, 2));
            refused(NOT, "presses on a rock", x -> x.presses(1, rock, 7));
            refused(NOT, "counted on a rock", x -> x.counted(1, rock, 7, 999));
            refused(NOT, "best from a rock", x -> x.best(3, rock, 7, 24));
        }
        refused(NOT, "goBack to what was not kept", x -> x.goBack(0));
    }

    static void orderOfRefusals() {
        sentence("REFUSALS, of several the first in this order: UNKNOWN (a CELL, SORT, RULE, IMAGE that there is not; bits of such), "
            + "OUTSIDE (another number out of its bounds), NOT (not now, as told), FULL.");
        refused(UNKNOWN, "sort: SORT, what", x -> x.sort(2, 5));
        refused(UNKNOWN, "turns: CELL, all else", x -> x.turns(64, 8, 1000, 2, 3));
        refused(UNKNOWN, "way: SORT, WAY", x -> x.way(2, 5, 0));
        refused(UNKNOWN, "way: SORT, v", x -> x.way(-1, 2, 5));
        refused(UNKNOWN, "presses: SORT, HEADING, a rock", x -> x.presses(2, 0, 8));
        refused(UNKNOWN, "presses: CELL, HEADING", x -> x.presses(0, 64, 8));
        refused(UNKNOWN, "presses: SORT, a rock", x -> x.presses(2, 0, 0));
        refused(UNKNOWN, "counted: RULE, HEADING, a rock", x -> x.counted(2, 0, 8, 0));
        refused(UNKNOWN, "counted: CELL, HOUR", x -> x.counted(0, 64, 0, 1000));
        refused(UNKNOWN, "counted: RULE, a rock", x -> x.counted(-1, 62, 0, 0));
        refused(UNKNOWN, "run: RULE, what", x -> x.run(2, 3));
        refused(UNKNOWN, "at: RULE, t, what", x -> x.at(2, 401, 2));
        refused(UNKNOWN, "best: SET, all else, a rock", x -> x.best(4, 0, 8, 25));
        refused(UNKNOWN, "best: SET, a rock", x -> x.best(4, 0, 0, 1));
        refused(UNKNOWN, "best: CELL, T", x -> x.best(1, -1, 0, 0));
        refused(UNKNOWN, "course: SET, T", x -> x.course(4, 25, 25));
        refused(UNKNOWN, "value: RULE, T", x -> x.value(2, 1, 0));
        refused(UNKNOWN, "value: SET, T", x -> x.value(0, 4, 25));
        refused(UNKNOWN, "gain: RULE, T", x -> x.gain(2, 1, 0));
        refused(UNKNOWN, "gain: SET, T", x -> x.gain(0, 4, 25));
        refused(UNKNOWN, "pact: RULE, T", x -> x.pact(2, 13));
        refused(UNKNOWN, "sides: RULE, what", x -> x.sides(2, 0, 3));
        refused(UNKNOWN, "sides: CELL, what", x -> x.sides(0, 64, 3));
        refused(UNKNOWN, "bestRule: SET, T, what", x -> x.bestRule(4, 25, 2));
        refused(UNKNOWN, "voyage: RULE, q, n", x -> x.voyage(2, 101, 100));
        refused(OUTSIDE, "turns: HEADING, a rock", x -> x.turns(0, 8, 0, 0, 0));
        refused(OUTSIDE, "turns: HOUR, a rock", x -> x.turns(0, 0, 1000, 0, 0));
        refused(OUTSIDE, "turns: TURN, a rock", x -> x.turns(0, 0, 0, 2, 0));
        refused(OUTSIDE, "turns: what, a rock", x -> x.turns(0, 0, 0, 0, 3));
        refused(OUTSIDE, "presses: HEADING, a rock", x -> x.presses(0, 0, 8));
        refused(OUTSIDE, "counted: HEADING, a rock", x -> x.counted(0, 0, -1, 0));
        refused(OUTSIDE, "counted: HOUR, a rock", x -> x.counted(0, 0, 0, 1000));
        refused(OUTSIDE, "best: HEADING, a rock", x -> x.best(1, 0, 8, 1));
        refused(OUTSIDE, "best: T, a rock", x -> x.best(1, 0, 0, 25));
        fullComesLast();
    }

    static void fullComesLast() {
        NineWheel x = at("", KINDS);
        say(x, many(300, " "));
        due("feed(9) behind 300 bytes", x.feed(9, 0), OUTSIDE);
        due("feed(0) behind 300 bytes", x.feed(0, 0), OUTSIDE);
        due("feed(1) behind 300 bytes", x.feed(1, 0), FULL);
        due("a fifth rule of 300 bytes", x.rule(), NOT);
        x.sea();
        say(x, "most");
        due("a fifth rule", x.rule(), FULL);
        for (int i = 0; i < 40; i++) x.log(0);
        due("a 41st TURN that is none", x.log(2), OUTSIDE);
        due("a 41st TURN", x.log(1), FULL);
    }

    static void farBelow() {
        sentence("They are far below all that is counted: -1000001 and on.");
        due("NONE", NineWheel.NONE, -1);
        due("UNKNOWN", NineWheel.UNKNOWN, -1000001);
        due("OUTSIDE", NineWheel.OUTSIDE, -1000002);
        due("NOT", NineWheel.NOT, -1000003);
        due("FULL", NineWheel.FULL, -1000004);
        NineWheel x = pressing(new int[6], "ship 0 4;rocks 8;" + crew(9, 9, 9, 9, 9, 9), "most");
        due("the least WORTH OF A RUN", x.value(0, 63, 24), -99 * 54 * 24);
        x = at("ship 0 4;rocks 1,8,9;" + crew(9, 9, 9, 9, 9, 9));
        due("the least BEST COURSE", x.best(63, 0, 3, 24), -99 * 54 * 24);
    }

    static void numbersAndSets() {
        sentence("What has a number has it from 0 on, as it comes.");
        NineWheel x = at(crew(3, 1, 9));
        int[] persons = {3, 1, 9, UNKNOWN};
        for (int s = 0; s < 4; s++) due("PERSONS of SORT " + s, x.sort(s, 0), persons[s]);
        for (int r = 0; r < 4; r++) due("RULE", ruleOf(x, "most"), r);
        sentence("A SET is a whole number, bit k for k.");
        x = at("ship 0 4;rocks 1;sort 1 likes 7 1;sort 2 likes 7 2;sort 3 likes 7 3;sort 4 likes 7 4;sort 5 likes 7 5;sort 6 likes 7 6;");
        for (int set = 0; set < 64; set++) {
            int sum = 0;
            for (int k = 0; k < 6; k++) sum += (set >> k & 1) * (k + 1) * (k + 1);
            due("worth to SET " + set, x.worth(7, set), sum);
        }
        for (int set : p(64, 65, 127, 128, 1 << 30, LOW, LOW | 63, -1)) due("SET " + set, x.worth(7, set), UNKNOWN);
        due("SET 0 without SORTS", at("").worth(0, 0), 0);
        due("SET 1 without SORTS", at("").worth(0, 1), UNKNOWN);
    }

    static void manyCalls() {
        sentence("An object is used for at most 512 calls after it has been made");
        NineWheel x = at("ship 27 4;rocks 9,54;sort 1 likes 45 5;sort 2 likes 2 7 fears 1;", "mean");
        int[] first = {x.gain(0, 3, 24), x.pact(0, 12), x.sides(0, 45, 2), x.bestRule(3, 24, 1), x.run(0, 1)};
        for (int i = 0; i < 98; i++) {
            due("gain again", x.gain(0, 3, 24), first[0]);
            due("pact again", x.pact(0, 12), first[1]);
            due("sides again", x.sides(0, 45, 2), first[2]);
            due("bestRule again", x.bestRule(3, 24, 1), first[3]);
            due("run again", x.run(0, 1), first[4]);
        }
    }

    // ---- the sea's text

    static void newObject() {
        sentence("A SEA without rocks and PERSONS.");
        NineWheel x = new NineWheel();
        int[] told = {0, 4, NONE, NONE, 0, 0, 0, 0};
        for (int what = 0; what < 8; what++) due("told " + what + " of a new object", x.told(what), told[what]);
        for (int c = 0; c < 64; c++) due("turns at " + c, x.turns(c, c % 8, 999, 0, 0), gone(c, c % 8));
        for (int c = 0; c < 64; c++) due("best from " + c, x.best(0, c, c % 8, 24), 0);
        due("worth to none", x.worth(63, 0), 0);
        due("SORT 0", x.sort(0, 0), UNKNOWN);
        due("a FAULT", x.fault(), NONE);
        for (int what = 0; what < 3; what++) due("count " + what, x.count(what), 0);
        due("keep", x.keep(0), 1);
        due("goBack to the other", x.goBack(1), NOT);
    }

    static void feeding() {
        sentence("The lowest n bytes (1 .. 8) of a long, the highest of these first, come behind THE TEXT: how many it has.");
        String text = "ship 63 7;rocks 0,1;lag 2;drift 1 9;sort 4;";
        for (int n = 1; n <= 8; n++) {
            NineWheel x = new NineWheel();
            for (int from = 0; from < text.length(); from += n) {
                String part = text.substring(from, Math.min(text.length(), from + n));
                long bytes = 0x3b3b3b3b3b3b3b3bL;
                for (char c : part.toCharArray()) bytes = bytes << 8 | c;
                due("feed of '" + part + "'", x.feed(part.length(), bytes), from + part.length());
            }
            due("sea() of parts of " + n, x.sea(), 1);
            int[] told = {63, 7, 1, 9, 2, 1, 4, 2};
            for (int what = 0; what < 8; what++) due("told " + what + " of parts of " + n, x.told(what), told[what]);
        }
        sentence("OUTSIDE, FULL (300).");
        NineWheel x = new NineWheel();
        say(x, many(293, " "));
        due("feed(8) behind 293", x.feed(8, 0), FULL);
        due("none of the eight came", x.count(2), 293);
        due("feed(7) behind 293", x.feed(7, 0x20202020202020L), 300);
        due("feed(1) behind 300", x.feed(1, 0), FULL);
        due("THE TEXT", x.count(2), 300);
        due("sea() of 300 blanks", x.sea(), 0);
        due("feed(8) behind nothing again", x.feed(8, 0), 8);
        x.rule();
        say(x, many(292, " "));
        due("feed(8) behind 292", x.feed(8, 0), 300);
        for (int n : p(0, 9, -1, LOW, HIGH)) due("feed(" + n + ") behind 300", x.feed(n, 0), OUTSIDE);
    }

    static void longTexts() {
        sentence("THE SEA is told in a text (300 bytes at most)");
        seaSound(many(291, " ") + "ship 1 2;", 0);
        seaSound("sort 9;" + many(293, " "), 1);
        sentence("FAULTS, at the first byte that has one (the end at the text's length), of these the least");
        seaFault("ship" + many(296, " "), 1, 300);
        seaFault(many(298, " ") + "ta", 1, 298);
        seaFault("lag 1", 1, 5);
        seaFault("lag 1   ", 1, 8);
        seaFault("lag", 1, 3);
        seaFault("sort 1 likes 3 -", 1, 16);
        ruleFault("most need", 1, 9);
        ruleFault("most need  ", 1, 11);
        seaFault("ship 1 2 345;", 1, 9);
        seaFault("ship 1 2 ship 1 2;", 1, 9);
        seaFault("ship 1 2;ship 99 9;", 3, 9);
        seaFault("rocks 8,08 64;", 4, 8);
        seaFault("rocks 8,008;", 2, 8);
        seaFault("rocks 8,64,8;", 2, 8);
        seaFault("lag 3 3;", 2, 4);
        seaFault("lag ;lag 3;", 1, 4);
        ruleFault("most bar 1,01 6", 4, 11);
        ruleFault("most bar 1,001", 2, 11);
        ruleFault("most need 1 234", 1, 12);
    }

    static void bounds() {
        sentence("'ship' C H ';'");
        for (int c : p(0, 1, 62, 63)) due("ship " + c, at("ship " + c + " 7;").told(0), c);
        for (int h = 0; h < 8; h++) due("ship 0 " + h, at("ship 0 " + h + ";").told(1), h);
        for (int c : p(64, 65, 99)) seaFault("ship " + c + " 0;", 2, 5);
        for (int h : p(8, 9, 10, 99)) seaFault("ship 9 " + h + ";", 2, 7);
        sentence("(K 1 .. 9)");
        for (int k = 1; k <= 9; k++) {
            NineWheel x = at("drift " + (k - 1) % 8 + " " + k + ";");
            due("K " + k, x.told(3), k);
            due("H of K " + k, x.told(2), (k - 1) % 8);
        }
        seaFault("drift 0 0;", 2, 8);
        seaFault("drift 0 00;", 2, 8);
        seaFault("drift 0 10;", 2, 8);
        seaFault("drift 8 1;", 2, 6);
        sentence("'lag' G ';' (0 .. 2)");
        for (int g = 0; g <= 2; g++) due("lag " + g, at("lag " + g + ";").told(4), g);
        seaFault("lag 3;", 2, 4);
        seaFault("lag 20;", 2, 4);
        sentence("N PERSONS, 1 .. 9; W -9 .. 9; F 0 .. 9");
        for (int n = 1; n <= 9; n++) due("N " + n, at("sort " + n + ";").sort(0, 0), n);
        seaFault("sort 0;", 2, 5);
        seaFault("sort 10;", 2, 5);
        for (int w = -9; w <= 9; w++) due("W " + w, at("sort 1 likes 7 " + w + ";").worth(7, 1), w);
        seaFault("sort 1 likes 7 10;", 2, 15);
        seaFault("sort 1 likes 7 -10;", 2, 15);
        for (int f = 0; f <= 9; f++) {
            NineWheel x = at("rocks 9;sort 1 fears " + f + ";");
            due("F " + f, x.sort(0, 1), f);
            due("WORTH, F " + f, x.worth(18, 1), -f);
        }
        seaFault("sort 1 fears 10;", 2, 13);
        listsOfCells();
    }

    static void listsOfCells() {
        sentence("'rocks' C {',' C} ';'");
        StringBuilder all = new StringBuilder("rocks 0");
        for (int c = 1; c < 63; c++) all.append(',').append(c);
        NineWheel x = at("ship 63 0;" + all + ";");
        due("63 rocks", x.told(7), 63);
        due("one rock", at("rocks 63;").told(7), 1);
        due("rock 0", at("ship 1 0;rocks 0;").turns(0, 0, 0, 0, 0), NOT);
        due("rock 63", at("rocks 63;").turns(63, 0, 0, 0, 0), NOT);
        seaFault("ship 1 0;rocks 64;", 2, 15);
        seaFault("rocks -1;", 1, 6);
        seaFault("rocks;", 1, 5);
        seaFault("rocks ,1;", 1, 6);
        seaFault("rocks 1,;", 1, 8);
        sentence("'sort' N ['likes' C W {',' C W}] ['fears' F] ';'");
        StringBuilder likes = new StringBuilder("sort 1 likes 0 1");
        for (int c = 1; c < 58; c++) likes.append(',').append(c).append(' ').append(c % 10);
        x = at(likes + ";");
        for (int c = 0; c < 64; c++) due("worth of " + c, x.worth(c, 1), c == 0 ? 1 : c < 58 ? c % 10 : 0);
        due("likes 63", at("sort 1 likes 63 9;").worth(63, 1), 9);
        seaFault("sort 1 likes 64 1;", 2, 13);
        seaFault("sort 1 likes -1 1;", 1, 13);
        seaFault("sort;", 1, 4);
        seaFault("sort likes 1 1;", 1, 5);
        seaFault("sort 1 likes;", 1, 12);
        seaFault("sort 1 likes 1;", 1, 14);
        seaFault("sort 1 likes 1 1,;", 1, 17);
        seaFault("sort 1 likes 1 1,2;", 1, 18);
        seaFault("sort 1 fears;", 1, 12);
        seaFault("sort 1 fears 1 likes 1 1;", 1, 15);
        seaSound("sort 1 fears 1;sort 1 likes 1 1;sort 1 likes 1 1 fears 1;sort 1;", 4);
        sentence("4 a CELL again in its list (at its first).");
        seaFault("ship 63 0;" + all + ",62;", 4, 10 + all.length() + 1);
        seaFault("ship 63 0;" + all + ",0;", 4, 10 + all.length() + 1);
        seaFault("ship 63 0;" + all + ",63,5;", 4, 10 + all.length() + 4);
        seaFault("rocks 9, 09;", 4, 9);
        seaFault("sort 1 likes 9 1,9 1;", 4, 17);
        seaFault("sort 1 likes 0 1,63 1,00 -9;", 4, 22);
        seaFault("sort 1 likes 63 1,0 1,63 99;", 4, 22);
        seaSound("rocks 9;sort 1 likes 9 1;sort 1 likes 9 1;", 2);
        ruleFault("most bar 0,1,2,3,4,5,0", 4, 21);
        ruleFault("most bar 5,5", 4, 11);
    }

    static void toldOnce() {
        sentence("All but 'sort' once.");
        String[] clauses = {"ship 1 2;", "rocks 7;", "drift 1 1;", "lag 1;"};
        for (String clause : clauses) {
            seaFault(clause + clause, 3, clause.length());
            seaFault(clause + "  " + clause, 3, clause.length() + 2);
            seaFault(clause + "sort 1;" + clause, 3, clause.length() + 7);
            seaFault(clause + clause.substring(0, clause.indexOf(' ')), 3, clause.length());
        }
        seaSound("lag 1;drift 1 1;rocks 7;ship 1 2;", 0);
        sentence("3 a clause that was told already, a seventh SORT (at its first letter).");
        seaSound(many(6, "sort 1;"), 6);
        seaFault(many(7, "sort 1;"), 3, 42);
        seaFault(many(6, "sort 1;") + " sort", 3, 43);
        seaFault(many(6, "sort 1;") + "sort 0;", 3, 42);
        seaFault(many(6, "sort 1;") + "sorts 1;", 1, 42);
        seaSound(many(6, "sort 1;") + "lag 1;", 6);
    }

    static void notTold() {
        sentence("What is not told: ship 0 4; no rocks, no drift; lag 0; a CELL that is not told is worth 0, fears 0.");
        NineWheel x = at("ship 9 3;rocks 0,1,63;drift 5 7;lag 2;sort 9 likes 0 9,40 9,63 9 fears 9;sort 2 likes 7 1 fears 3;");
        due("a SORT alone", seaOf(x, "sort 1;"), 1);
        int[] told = {0, 4, NONE, NONE, 0, 1, 1, 0};
        for (int what = 0; what < 8; what++) due("told " + what, x.told(what), told[what]);
        for (int c = 0; c < 64; c++) due("worth of " + c, x.worth(c, 1), 0);
        due("fears", x.sort(0, 1), 0);
        due("GOAL", x.sort(0, 2), 0);
        due("no drift in HOUR 6", x.turns(27, 4, 6, 0, 0), 35);
        due("SORT 1 is gone", x.sort(1, 0), UNKNOWN);
        due("rocks alone", seaOf(x, "rocks 1;sort 1 likes 9 1 fears 2;"), 1);
        due("rock 0 is gone", x.turns(0, 4, 0, 0, 0), 8);
        due("one rock", x.told(7), 1);
        due("the ship", x.told(0) * 8 + x.told(1), 4);
    }

    static void numbers() {
        sentence("NUMBERS have one or two figures");
        for (String n : new String[] {"7", "07"}) due("ship " + n, at("ship " + n + " 1;").told(0), 7);
        due("00", at("ship 00 00;").told(0), 0);
        sentence("2 a NUMBER of three figures or more, or out of its bounds (CELLS, HEADINGS, too; at its first, or its '-').");
        seaFault("ship 007 1;", 2, 5);
        seaFault("ship 1 000;", 2, 7);
        seaFault("ship 12345678901234567890 1;", 2, 5);
        seaFault("ship 4294967296 1;", 2, 5);
        seaFault("sort 1 likes 1 -10;", 2, 15);
        seaFault("sort 1 likes 1 -000;", 2, 15);
        seaFault("sort 1 likes 1 000;", 2, 15);
        seaFault("sort 1 likes 1 -123456789;", 2, 15);
        seaFault("drift 1 001;", 2, 8);
        seaFault("lag 000;", 2, 4);
        seaFault("sort 001;", 2, 5);
        seaFault("sort 1 fears 000;", 2, 13);
        ruleFault("most need 054", 2, 10);
        ruleFault("most unless left 001", 2, 17);
        sentence("'-' may stand at once ahead of a W (-0 is 0; where no figure is behind it: 1 at the byte that is there)");
        due("-0", at("sort 1 likes 7 -0;").worth(7, 1), 0);
        due("-00", at("sort 1 likes 7 -00;").worth(7, 1), 0);
        due("-9", at("sort 1 likes 7 -9;").worth(7, 1), -9);
        due("-09", at("sort 1 likes 7 -09;").worth(7, 1), -9);
        for (String behind : new String[] {"", " ", " 1;", ";", "-", "-1;", "a", "likes", ",", "\u00ff"}) {
            seaFault("sort 1 likes 7 -" + behind, 1, 16);
        }
        seaFault("sort 1 likes 7   -;", 1, 18);
        for (String text : new String[] {"ship -0 1;", "sort -1;", "lag -0;", "rocks -1;", "drift -1 1;"}) {
            seaFault(text, 1, text.indexOf('-'));
        }
        for (String text : new String[] {"ship 0 -1;", "ship 0 -0;", "drift 1 -1;", "sort 1 fears -0;", "sort 1 likes -0 1;"}) {
            seaFault(text, 1, text.indexOf('-'));
        }
        for (String text : new String[] {"most need -0", "most bar -1", "most bar 1,-2", "most unless left -1"}) {
            ruleFault(text, 1, text.indexOf('-'));
        }
    }

    static void words() {
        sentence("words are letters a .. z side by side");
        String[] texts = {"ship 1 2;", "rocks 7;", "drift 1 1;", "lag 1;", "sort 1;"};
        for (String text : texts) {
            int end = text.indexOf(' ');
            wordsNear(text, 0, end);
        }
        wordsNear("sort 1 likes 1 1;", 7, 12);
        wordsNear("sort 1 fears 1;", 7, 12);
        for (String other : new String[] {"A", "Z", "`", "{", "@", "[", "0a", "\u00e1", "\u0000"}) seaFault(other + "ship 1 2;", 1, 0);
        for (String other : new String[] {"`", "{", "S", "_", "\u00e1", "\u0000", "\t"}) seaFault("ship" + other + "1 2;", 1, 4);
        sentence("blanks (32) may stand anywhere but within words and NUMBERS");
        seaSound("   ship   1   2   ;   rocks   7   ,   8   ;   drift   1   1   ;   lag   1   ;   ", 0);
        seaSound("  sort  1  likes  1  1  ,  2  -2  fears  1  ;  ", 1);
        seaSound("ship1 2;rocks7,8;drift1 1;lag1;sort1likes1 1,2 -2fears1;", 1);
        ruleSound("  most  need  1  bar  1  ,  2  unless  left  1  ");
        ruleSound("most need1bar1,2unless left1");
        seaFault("sh ip 1 2;", 1, 0);
        seaFault("ship 1 2;l ag 1;", 1, 9);
        seaFault("lag 0 1;", 1, 6);
        for (String other : new String[] {"\t", "\n", "\r", "\u0000", "\u001f", "!", "\u00a0"}) {
            seaFault(other + "lag 1;", 1, 0);
            seaFault("lag" + other + "1;", 1, 3);
            seaFault("lag 1" + other + ";", 1, 5);
            seaFault("lag 1;" + other, 1, 6);
        }
        sentence("two words, two NUMBERS side by side need one.");
        seaFault("sort 1 likesfears 1;", 1, 7);
        seaFault("ship 12;", 1, 7);
        seaFault("ship 123;", 2, 5);
        seaFault("drift 11;", 2, 6);
        ruleFault("mostneed 1", 1, 0);
        ruleFault("most unlessleft 1", 1, 5);
        sentence("1 it cannot stand there (a word that cannot: at its first letter).");
        for (String text : new String[] {";", ",", "1", "-", "most", "likes 1 1;", "fears 1;", "shi", "x"}) seaFault(text, 1, 0);
        seaFault("ship one 2;", 1, 5);
        seaFault("ship 1 ship;", 1, 7);
        seaFault("ship 1,2;", 1, 6);
        seaFault("ship 1 2,", 1, 8);
        seaFault("ship 1 2;;", 1, 9);
        seaFault("rocks 1 2;", 1, 8);
        seaFault("rocks 1;2;", 1, 8);
        seaFault("lag 1 sort 1;", 1, 6);
        seaFault("sort 1 likes 1 1 2 2;", 1, 17);
        seaFault("sort 1 fears 1 fears 1;", 1, 15);
        seaFault("sort 1 likes 1 1 likes 2 2;", 1, 17);
        seaFault("sort 1 ships;", 1, 7);
    }

    /** The word between these places, spoilt at each of its letters, cut and made longer: it cannot stand. */
    static void wordsNear(String text, int from, int to) {
        for (int i = from; i < to; i++) {
            for (char other : new char[] {'a', 'z', 'q'}) {
                if (text.charAt(i) != other) seaFault(text.substring(0, i) + other + text.substring(i + 1), 1, from);
            }
            seaFault(text.substring(0, i) + (char) (text.charAt(i) - 32) + text.substring(i + 1), 1, from);
        }
        seaFault(text.substring(0, to - 1) + text.substring(to), 1, from);
        seaFault(text.substring(0, to) + "z" + text.substring(to), 1, from);
        seaFault(text.substring(0, to) + "a" + text.substring(to), 1, from);
        seaFault(text.substring(0, from) + "a" + text.substring(from), 1, from);
    }

    static void emptyTexts() {
        sentence("An empty text (or one of blanks alone) has no FAULT as a SEA.");
        for (String text : new String[] {"", " ", many(300, " ")}) {
            NineWheel x = at("ship 9 3;rocks 0;drift 5 7;lag 2;sort 9 fears 9;");
            due("sea() of " + text.length() + " blanks", seaOf(x, text), 0);
            due("fault()", x.fault(), NONE);
            int[] told = {0, 4, NONE, NONE, 0, 0, 0, 0};
            for (int what = 0; what < 8; what++) due("told " + what, x.told(what), told[what]);
        }
        ruleFault("", 1, 0);
        ruleFault(" ", 1, 1);
        ruleFault(many(80, " "), 1, 80);
        sentence("5 the ship's CELL is a rock (at the end of the text).");
        seaFault("rocks 0;", 5, 8);
        seaFault("rocks 0;   ", 5, 11);
        seaFault("ship 63 0;rocks 1,63;", 5, 21);
        seaFault("rocks 1,63;ship 63 0;lag 1;", 5, 27);
        seaFault("rocks 0;" + many(292, " "), 5, 300);
        seaSound("rocks 0;ship 1 4;", 0);
        sentence("If there is none of these:");
        seaFault("rocks 0;lag 3;", 2, 12);
        seaFault("rocks 0;lag 1", 1, 13);
        seaFault("rocks 0;rocks 1;", 3, 8);
        seaFault("rocks 0,0;", 4, 8);
    }

    static void becomesTheSea() {
        sentence("THE TEXT (it is empty then, with a FAULT, too) becomes THE SEA "
            + "(all SORTS are PLAIN; IMAGES are gone; RULES, THE LOG, THE SEED stay): how many SORTS");
        NineWheel x = laden();
        x.keep(0);
        due("lag 2;", x.sea(), 0);
        due("THE TEXT is empty", x.count(2), 0);
        due("IMAGE 0", x.goBack(0), NOT);
        due("IMAGE 1", x.goBack(1), NOT);
        due("RULES", x.count(0), 2);
        due("THE LOG", x.count(1), 2);
        due("THE SEED", x.seed(7), 7);
        StringBuilder six = new StringBuilder();
        for (int s = 0; s < 6; s++) six.append("sort 1 likes 19 9;");
        due("six SORTS", seaOf(x, six.toString()), 6);
        for (int s = 0; s < 6; s++) {
            x.presses(s, 9, 4);
            x.way(s, s % 2 == 0 ? 2 : 4, 2);
        }
        due("six SORTS again", seaOf(x, six.toString()), 6);
        for (int s = 0; s < 6; s++) {
            due("SORT " + s + " is PLAIN", x.sort(s, 3), 0);
            due("k or p of SORT " + s, x.sort(s, 4), 0);
            due("SORT " + s + " presses plainly", x.presses(s, 9, 4), -1);
        }
        due("the same SEA but for a rock", seaOf(x, "rocks 18;" + six), 6);
        due("presses, a rock in the way", x.presses(0, 9, 4), 0);
        due("another GOAL", seaOf(x, "sort 1 likes 16 9;"), 1);
        due("presses by THE SEA that is now", x.presses(0, 9, 4), 1);
        sentence("-10 less the number of its FAULT (all else is as it was).");
        String[] faults = {"ship 9 9 1;", "lag 3;", "lag 1;lag 1;", "rocks 1,1;", "ship 5 1;rocks 5;"};
        String[] begun = {"x;", "ship 1 1;rocks 9;drift 1 1;lag 3;", "lag 1;sort 9 likes 5 9 fears 9;lag 1;", "sort 1;sort 2;rocks 1,1;",
            "sort 7;ship 5 1;rocks 5;"};
        int[] number = {2, 2, 3, 4, 5}, second = {1, 2, 3, 4, 5};
        for (int i = 0; i < 5; i++) {
            spoilt(faults[i], number[i]);
            spoilt(begun[i], second[i]);
        }
    }

    static void spoilt(String text, int fault) {
        NineWheel x = laden();
        emptyTheText(x);
        due("sea() of '" + text + "'", seaOf(x, text), -10 - fault);
        due("THE TEXT behind it", x.count(2), 0);
        alike("sea() of '" + text + "'", all(x, false), all(laden(), false));
    }

    // ---- a rule's text

    static void ruleTexts() {
        sentence("RULES (4 at most) are texts (80 bytes at most)");
        NineWheel x = new NineWheel();
        due("a RULE of 80 bytes", ruleOf(x, "most" + many(76, " ")), 0);
        due("THE TEXT is empty then", x.count(2), 0);
        due("a RULE of 81 bytes", ruleOf(x, "most" + many(77, " ")), NOT);
        due("THE TEXT stays", x.count(2), 81);
        due("RULES", x.count(0), 1);
        due("a SEA of it is none", x.sea(), -11);
        due("80 blanks", ruleOf(x, many(80, " ")), -11);
        due("THE TEXT is empty with a FAULT, too", x.count(2), 0);
        due("81 blanks", ruleOf(x, many(81, " ")), NOT);
        x.sea();
        for (int r = 1; r < 4; r++) due("RULE", ruleOf(x, "turns"), r);
        due("a fifth", ruleOf(x, "lag"), FULL);
        due("THE TEXT stays with FULL", x.count(2), 3);
        due("RULES", x.count(0), 4);
        say(x, " 2;");
        due("what stayed, read as a SEA", x.sea(), 0);
        due("its lag", x.told(4), 2);
        due("a fifth behind a SEA", ruleOf(x, "most"), FULL);
        sentence("NOT: more than 80 bytes; FULL (THE TEXT stays, of both).");
        for (int bytes : p(81, 82, 299, 300)) {
            x = at("", "most");
            due("a RULE of " + bytes + " bytes", ruleOf(x, "mean" + many(bytes - 4, " ")), NOT);
            due("THE TEXT", x.count(2), bytes);
            x.sea();
            for (int r = 1; r < 4; r++) due("RULE", ruleOf(x, "mean"), r);
            due("a fifth of " + bytes + " bytes", ruleOf(x, many(bytes, " ")), NOT);
            due("THE TEXT of the fifth", x.count(2), bytes);
            x.sea();
            due("a fifth of 80 bytes", ruleOf(x, many(80, " ")), FULL);
            due("THE TEXT of it", x.count(2), 80);
            x.sea();
            due("a fifth of none", x.rule(), FULL);
        }
        sentence("N 0 .. 54, S 0 .. 5, K 1 .. 7.");
        for (int n : p(0, 1, 53, 54)) ruleSound("most need " + n);
        for (int n : p(55, 56, 99)) ruleFault("most need " + n, 2, 10);
        for (int s = 0; s <= 5; s++) ruleSound("most bar " + s);
        for (int s : p(6, 7, 10)) ruleFault("most bar " + s, 2, 9);
        for (int k = 1; k <= 7; k++) ruleSound("most unless right " + k);
        for (int k : p(0, 8, 9, 10)) ruleFault("most unless right " + k, 2, 18);
        ruleSound("most bar 5,4,3,2,1,0");
        sentence("kind ['need' N] ['bar' S {',' S}] ['unless' ('left' | 'right') K]");
        for (String kind : KINDS) {
            ruleSound(kind);
            ruleSound(kind + " need 0 bar 0 unless left 1");
            ruleFault(kind + "s", 1, 0);
            ruleFault(kind.substring(1), 1, 0);
        }
        ruleFault("need 1", 1, 0);
        ruleFault("most need", 1, 9);
        ruleFault("most bar", 1, 8);
        ruleFault("most bar ,1", 1, 9);
        ruleFault("most bar 1,", 1, 11);
        ruleFault("most unless", 1, 11);
        ruleFault("most unless 1", 1, 12);
        ruleFault("most unless up 1", 1, 12);
        ruleFault("most unless left", 1, 16);
        ruleFault("most unless left left 1", 1, 17);
        sentence("(also what stands behind: 1)");
        for (String behind : new String[] {";", "1", "most", "x", "-", ",", "\u0000", "\u00ff"}) {
            ruleFault("most " + behind, 1, 5);
            ruleFault("most unless left 1 " + behind, 1, 19);
        }
        ruleFault("most bar 1 need 1", 1, 11);
        ruleFault("most need 1 need 1", 1, 12);
        ruleFault("most unless left 1 bar 1", 1, 19);
        sentence("is a RULE: its number; -10 less the number of its FAULT.");
        for (String text : new String[] {"", "mean need 55", "mean bar 0,0", "mean bar 0,1 unless left 9", "mean?"}) {
            x = laden();
            emptyTheText(x);
            due("a FAULT of '" + text + "'", ruleOf(x, text) < -10 ? 1 : 0, 1);
            alike("rule() of '" + text + "'", all(x, false), all(laden(), false));
        }
    }

    /** Empties THE TEXT of a laden object by reading it as the RULE that it is not. */
    static void emptyTheText(NineWheel x) {
        due("rule() of 'lag 2;'", x.rule(), -11);
        due("THE TEXT behind it", x.count(2), 0);
    }

    static void faults() {
        sentence("The place (from 0 on) of the byte that has the FAULT of the latest sea() or rule() that was not refused otherwise; NONE.");
        NineWheel x = new NineWheel();
        due("of none", x.fault(), NONE);
        seaOf(x, "?");
        due("at 0", x.fault(), 0);
        seaOf(x, "ship 1 2;ship");
        due("at 9", x.fault(), 9);
        due("asked again", x.fault(), 9);
        ruleOf(x, "most" + many(77, " "));
        due("behind NOT", x.fault(), 9);
        x.feed(0, 0);
        due("behind OUTSIDE", x.fault(), 9);
        x.sea();
        due("of a text that was NOT a RULE", x.fault(), 0);
        ruleOf(x, "most need");
        due("of a RULE", x.fault(), 9);
        for (String kind : KINDS) ruleOf(x, kind);
        due("of a sound RULE", x.fault(), NONE);
        seaOf(x, "lag 3;");
        ruleOf(x, "most");
        due("behind FULL", x.fault(), 4);
        ruleOf(x, "?");
        due("behind FULL of a text with a FAULT", x.fault(), 4);
        x.sea();
        due("of THE TEXT that stayed", x.fault(), 0);
        x.sea();
        due("of an empty SEA", x.fault(), NONE);
        ruleOf(x, many(81, "?"));
        due("NONE behind NOT", x.fault(), NONE);
        seaOf(x, many(219, "?"));
        due("of 300 bytes", x.fault(), 0);
    }

    // ---- where she goes, what a place is worth

    static void toldOfTheSea() {
        sentence("Of THE SEA: what = 0 the ship's CELL, 1 HEADING, 2 the drift's H (NONE), 3 K (NONE), 4 lag, 5 SORTS, 6 PERSONS, 7 rocks.");
        NineWheel x = at("ship 63 0;rocks 0;drift 0 1;lag 1;" + crew(9, 9, 9, 9, 9, 9));
        int[] most = {63, 0, 0, 1, 1, 6, 54, 1}, least = {0, 4, NONE, NONE, 0, 1, 1, 0};
        for (int what = 0; what < 8; what++) due("told " + what, x.told(what), most[what]);
        x = at("sort 1;");
        for (int what = 0; what < 8; what++) due("told " + what, x.told(what), least[what]);
        for (int what : p(-1, 8, LOW, HIGH)) due("told " + what, x.told(what), OUTSIDE);
    }

    static void turning() {
        sentence("HEADING is one less, the same, one more (round by 8); she goes one CELL that way, or stays where she is, if there is none");
        for (int row = 0; row < 8; row++) {
            NineWheel x = new NineWheel();
            for (int c = row * 8; c < row * 8 + 8; c++) {
                for (int h = 0; h < 8; h++) {
                    for (int turn = -1; turn <= 1; turn++) {
                        int heading = turned(h, turn);
                        String what = "TURN " + turn + " at " + c + " by " + h;
                        due(what, x.turns(c, h, 8 * c + h, turn, 0), gone(c, heading));
                        due(what + ": HEADING", x.turns(c, h, 8 * c + h, turn, 1), heading);
                    }
                }
            }
        }
        NineWheel x = at("");
        for (int hour : p(-1, 1000)) due("HOUR " + hour, x.turns(27, 0, hour, 0, 0), OUTSIDE);
        for (int hour : p(0, 999)) due("HOUR " + hour, x.turns(27, 0, hour, 0, 0), 19);
        due("0 to the left", x.turns(27, 0, 0, -1, 1), 7);
        due("7 to the right", x.turns(27, 7, 0, 1, 1), 0);
        due("no row's end goes on in the next", x.turns(7, 2, 0, 0, 0), 7);
        due("no row's end goes on in the one above", x.turns(8, 6, 0, 0, 0), 8);
        due("no slant goes round", x.turns(15, 1, 0, 0, 0), 15);
        due("no slant goes round", x.turns(48, 5, 0, 0, 0), 48);
    }

    static void drifting() {
        sentence("then, if K divides the HOUR and 1 (and there is a drift), one more by its H (likewise, not if she is on a rock already).");
        for (int k = 1; k <= 9; k++) {
            NineWheel x = at("drift 2 " + k + ";");
            for (int hour = 0; hour < 40; hour++) {
                due("K " + k + " in HOUR " + hour, x.turns(24, 4, hour, 0, 0), (hour + 1) % k == 0 ? 33 : 32);
            }
            for (int hour = 990; hour < 1000; hour++) {
                due("K " + k + " in HOUR " + hour, x.turns(24, 4, hour, 0, 0), (hour + 1) % k == 0 ? 33 : 32);
            }
        }
        for (int h = 0; h < 8; h++) {
            NineWheel x = at("drift " + h + " 1;");
            for (int c = 0; c < 64; c++) {
                due("drift " + h + " at " + c, x.turns(c, 4, 0, -1, 0), gone(gone(c, 3), h));
                due("HEADING by drift " + h, x.turns(c, 4, 0, -1, 1), 3);
            }
        }
        NineWheel x = at("ship 63 0;rocks 16,26;drift 2 2;");
        due("on a rock already", x.turns(8, 4, 1, 0, 0), 16);
        due("it is a rock", x.turns(8, 4, 1, 0, 2), 1);
        due("drift onto a rock", x.turns(17, 4, 1, 0, 0), 26);
        due("it is a rock, too", x.turns(17, 4, 1, 0, 2), 1);
        due("no drift, no rock", x.turns(17, 4, 2, 0, 2), 0);
        due("drift past nothing at the edge", x.turns(15, 4, 1, 0, 0), 23);
    }

    static void worths() {
        sentence("W of it less F times how many rocks are 1 FAR or less from it; of a rock -99.");
        for (int rock = 0; rock < 64; rock++) {
            NineWheel x = at("ship " + (rock + 1) % 64 + " 0;rocks " + rock + ";sort 1 fears 1;");
            for (int c = 0; c < 64; c++) due("rock " + rock + ", CELL " + c, x.worth(c, 1), c == rock ? -99 : far(c, rock) <= 1 ? -1 : 0);
        }
        NineWheel x = at("ship 0 4;rocks 18,19,20,26,28,34,35,36;sort 9 likes 27 -9,18 9 fears 9;sort 1 likes 27 9;");
        due("eight rocks, F 9, W -9", x.worth(27, 1), 9 * (-9 - 72));
        due("fears none", x.worth(27, 2), 9);
        due("a rock that is liked and has rocks by it", x.worth(18, 1), 9 * -99);
        due("two from one rock", x.worth(16, 1), 0);
        due("by one rock", x.worth(9, 1), 9 * -9);
        sentence("WORTH to a SET of SORTS: of each times its PERSONS, together.");
        due("to both", x.worth(27, 3), 9 * -81 + 9);
        due("a rock to both", x.worth(36, 3), -990);
        due("to none", x.worth(27, 0), 0);
        due("a rock to none", x.worth(18, 0), 0);
    }

    static void goals() {
        sentence("the CELL, no rock, with the greatest WORTH (of like ones the least; NONE: there are rocks alone).");
        due("all alike", at("sort 1;").sort(0, 2), 0);
        due("all alike but rocks", at("ship 9 0;rocks 0,1;sort 1;").sort(0, 2), 2);
        due("like ones", at("sort 1 likes 63 9,40 9,41 9;").sort(0, 2), 40);
        due("the last CELL", at("sort 1 likes 62 8,63 9;").sort(0, 2), 63);
        due("0 is better than below 0", at("sort 1 likes 0 -1,1 -9,3 -1;").sort(0, 2), 2);
        due("a rock is none", at("rocks 5;sort 1 likes 5 9,6 1;").sort(0, 2), 6);
        due("fears", at("ship 63 0;rocks 9;sort 1 likes 0 4,3 1 fears 4;").sort(0, 2), 3);
        due("fears less", at("ship 63 0;rocks 9;sort 1 likes 0 4,3 1 fears 3;").sort(0, 2), 0);
        StringBuilder rocks = new StringBuilder("rocks 0");
        for (int c = 1; c < 63; c++) rocks.append(',').append(c);
        NineWheel x = at("ship 63 0;" + rocks + ";sort 1 likes 0 9 fears 9;");
        due("one CELL alone", x.sort(0, 2), 63);
        due("its WORTH", x.worth(63, 1), -27);
        seaFault(rocks + ",63;sort 1;", 5, rocks.length() + 11);
    }

    static void ofASort() {
        sentence("Of a SORT: what = 0 PERSONS, 1 F, 2 GOAL (NONE), 3 its WAY, 4 k or p of that (0 of others).");
        NineWheel x = at("sort 9 likes 63 1 fears 9;sort 1;sort 2;sort 3;sort 4;sort 5 likes 62 1 fears 1;");
        int[] first = {9, 9, 63, 0, 0}, last = {5, 1, 62, 0, 0};
        for (int what = 0; what < 5; what++) {
            due("what " + what, x.sort(0, what), first[what]);
            due("what " + what + " of the sixth", x.sort(5, what), last[what]);
        }
        due("a seventh", x.sort(6, 0), UNKNOWN);
        sentence("A WAY of a SORT (v: k of 2, p of 4, 0 of others): which it was.");
        for (int s = 0; s < 6; s++) {
            int was = 0;
            for (int way = 0; way <= 4; way++) {
                for (int v = -3; v <= 5; v++) {
                    boolean fits = way == 2 ? v >= 1 && v <= 4 : way == 4 ? v >= -2 && v <= 2 : v == 0;
                    due("way(" + s + ", " + way + ", " + v + ")", x.way(s, way, v), fits ? was : OUTSIDE);
                    if (fits) was = way;
                    if (!fits) continue;
                    due("WAY of " + s, x.sort(s, 3), way);
                    due("k or p of " + s, x.sort(s, 4), v);
                }
            }
            x.way(s, 0, 0);
            for (int way : p(-1, 5, LOW, HIGH)) due("WAY " + way, x.way(s, way, 0), OUTSIDE);
            for (int v : p(LOW, HIGH)) due("k " + v, x.way(s, 2, v), OUTSIDE);
        }
        for (int s = 0; s < 5; s++) due("SORT " + s + " behind all that", x.sort(s, 3) * 10 + x.sort(s, 4), 0);
        sentence("At first all are PLAIN.");
        x = at(crew(1, 1, 1, 1, 1, 1));
        for (int s = 0; s < 6; s++) due("SORT " + s, x.sort(s, 3), 0);
    }

    // ---- pressing

    static final String ROCKY = "ship 0 4;rocks 11,20,27,28,45,57,62;";
    static final int[] ROCKY_ROCKS = {11, 20, 27, 28, 45, 57, 62};

    static boolean rocky(int cell) {
        return Arrays.binarySearch(ROCKY_ROCKS, cell) >= 0;
    }

    static int nearest(int cell, int heading, int goal) {
        int best = 0, least = 1000;
        for (int turn : p(0, -1, 1)) {
            int next = gone(cell, turned(heading, turn));
            int off = rocky(next) ? 99 : far(next, goal);
            if (off < least) best = turn;
            least = Math.min(least, off);
        }
        return best;
    }

    static void plainAndHard() {
        sentence("of TURNS 0, -1, 1 (in this order, a later one only if it is better) that by which she would next be "
            + "(by TURN alone, without drift) nearest to its GOAL (FAR; a rock is 99 off; NONE: 0); it presses that. 1 HARD: twice that.");
        for (int goal : p(0, 7, 35, 56, 63)) {
            NineWheel x = at(ROCKY + "drift 2 1;lag 2;sort 1 likes " + goal + " 9;");
            NineWheel hard = at(ROCKY + "sort 1;sort 9 likes " + goal + " 9;");
            hard.way(1, 1, 0);
            for (int place = 0; place < 512; place++) {
                int c = place / 8, h = place % 8;
                if (place % 200 == 199) x = at(ROCKY + "drift 2 1;lag 2;sort 1 likes " + goal + " 9;");
                if (place % 200 == 199) hard = at(ROCKY + "sort 1;sort 9 likes " + goal + " 9;");
                if (place % 200 == 199) hard.way(1, 1, 0);
                due("PLAIN toward " + goal + " at " + c + " by " + h, x.presses(0, c, h), rocky(c) ? NOT : nearest(c, h, goal));
                due("HARD toward " + goal + " at " + c + " by " + h, hard.presses(1, c, h), rocky(c) ? NOT : 2 * nearest(c, h, goal));
            }
        }
        NineWheel x = at("ship 63 0;rocks 54,55,62;sort 1;");
        due("rocks on all three ways: straight", x.presses(0, 63, 7), 0);
        due("the edge is no rock", x.presses(0, 63, 0), 1);
        due("straight into the edge", x.presses(0, 63, 3), 0);
    }

    /** The best sum of so many HOURS and, of the rows that have it, the first's first TURN: sum * 4 and TURN and 1. */
    static int ahead(int cell, int heading, int hours, int[] worth) {
        int best = 0, greatest = -100000;
        for (int turn : p(0, -1, 1)) {
            int next = gone(cell, turned(heading, turn)), sum = -99 * hours;
            if (worth[next] != -99) {
                sum = worth[next];
                if (hours > 1) sum += Math.floorDiv(ahead(next, turned(heading, turn), hours - 1, worth), 4);
            }
            if (sum > greatest) best = turn;
            greatest = Math.max(greatest, sum);
        }
        return greatest * 4 + best + 1;
    }

    static void lookingAhead() {
        sentence("2 AHEAD k (1 .. 4): the first TURN of the row of k TURNS (0, -1, 1 in this order: the first row that is best) by which WORTH to it "
            + "of the CELLS that come, together, is greatest (by TURNS alone, without drift, lag; when STRUCK -99 for it and each HOUR more).");
        aheadOn(ROCKY, "sort 1;");
        aheadOn(ROCKY, "sort 2 likes 0 9,7 9,56 9,63 9,35 -9 fears 9;");
        aheadOn(ROCKY, "sort 9 likes 36 9,37 -5,29 3,30 1,19 2,18 2,10 2 fears 1;");
        // So many rocks that to be STRUCK soon is hardly worse than to be afloat.
        StringBuilder rocks = new StringBuilder("ship 0 4;rocks 2");
        for (int c = 4; c < 64; c++) {
            if ((c / 8 + c % 8) % 2 == 0 && c % 5 != 0) rocks.append(',').append(c);
        }
        aheadOn(rocks + ";", "sort 3 likes 5 -9,12 -9,14 -9,21 -9,23 -9,30 -9,32 -9 fears 9;");
        aheadOn(rocks + ";", "sort 1 likes 5 -9,12 9,14 -9,21 9,23 -9,30 9,32 -9 fears 5;");
        NineWheel x = at("sort 1 likes 19 9,26 9,34 9,42 9;sort 1 likes 19 9,26 9,34 9,42 9;");
        for (int k : p(4, 1, 3, 1, 2, 1)) {
            x.way(0, 2, k);
            x.way(1, 2, 5 - k);
            due("AHEAD " + k + " behind others", x.presses(0, 10, 4), k == 1 ? -1 : 0);
            due("AHEAD " + (5 - k) + " by AHEAD " + k, x.presses(1, 10, 4), k == 4 ? -1 : 0);
        }
    }

    static void aheadOn(String sea, String sort) {
        NineWheel told = at(sea + sort);
        int[] worth = new int[64];
        for (int c = 0; c < 64; c++) worth[c] = told.worth(c, 1) / told.sort(0, 0);
        for (int k = 1; k <= 4; k++) {
            NineWheel x = told;
            for (int place = 0; place < 512; place++) {
                if (place % 256 == 0) x = at(sea + "drift 4 1;lag 1;" + sort);
                if (place % 256 == 0) x.way(0, 2, k);
                int c = place / 8, h = place % 8;
                int want = worth[c] == -99 ? NOT : Math.floorMod(ahead(c, h, k, worth), 4) - 1;
                due("AHEAD " + k + " of '" + sort + "' at " + c + " by " + h, x.presses(0, c, h), want);
            }
        }
    }

    static int most(int left, int straight, int right) {
        if (straight >= left && straight >= right) return 0;
        return left >= right ? -1 : 1;
    }

    static void blindAndTold() {
        sentence("3 BLIND: what MOST of PERSONS of SORTS that are not BLIND press (-1, 0, 1 by sign; of like ones 0, then -1).");
        for (int blind = 0; blind < 4; blind++) {
            int[] seeing = {2, 3, 1}, crew = new int[4];
            for (int s = 0, k = 0; s < 4; s++) crew[s] = s == blind ? 9 : seeing[k++];
            for (int n = 0; n < 125; n++) {
                int[] presses = {n % 5 - 2, n / 5 % 5 - 2, n / 25 - 2}, count = new int[3];
                NineWheel x = at(ROCKY + crew(crew));
                for (int s = 0, k = 0; s < 4; s++) {
                    if (s != blind) count[Integer.signum(presses[k]) + 1] += seeing[k];
                    if (s == blind) x.way(s, 3, 0);
                    else x.way(s, 4, presses[k++]);
                }
                int want = most(count[0], count[1], count[2]);
                due("BLIND SORT " + blind + " by " + Arrays.toString(presses), x.presses(blind, 63, 7), want);
                due("BLIND SORT " + blind + " by " + Arrays.toString(presses), x.presses(blind, 0, 0), want);
            }
        }
        NineWheel x = at(crew(1, 2, 3, 1, 2, 3));
        for (int s = 0; s < 6; s++) x.way(s, 3, 0);
        for (int s = 0; s < 6; s++) due("all are BLIND", x.presses(s, 9, 0), 0);
        x.way(5, 4, -2);
        for (int s = 0; s < 5; s++) due("all but one are BLIND", x.presses(s, 9, 0), -1);
        x.way(0, 4, 2);
        due("three to the left, one to the right", x.presses(4, 9, 0), -1);
        x.way(2, 4, 2);
        due("three to the left, four to the right", x.presses(4, 9, 0), 1);
        x.way(0, 3, 0);
        due("three to each side", x.presses(4, 9, 0), -1);
        x.way(3, 4, 0);
        x.way(4, 4, 0);
        due("three of each", x.presses(1, 9, 0), 0);
        sentence("(BLIND: with the others as they press.)");
        for (int place = 0; place < 512; place++) {
            int c = place / 8, h = place % 8;
            if (place % 100 == 0) x = at(ROCKY + "sort 2 likes 63 9;sort 1 likes 0 9;sort 2 likes 36 9,35 -9 fears 1;sort 9;sort 1 likes 7 9;");
            if (place % 100 == 0) for (int s = 1; s < 4; s++) x.way(s, s, s == 2 ? 3 : 0);
            int[] count = new int[3], persons = {2, 1, 2, 0, 1};
            if (rocky(c)) due("BLIND on a rock", x.presses(3, c, h), NOT);
            if (rocky(c)) continue;
            for (int s = 0; s < 5; s++) count[Integer.signum(x.presses(s, c, h)) + 1] += persons[s];
            due("BLIND at " + c + " by " + h, x.presses(3, c, h), most(count[0], count[1], count[2]));
        }
        sentence("4 TOLD p (-2 .. 2): that.");
        x = at(crew(1, 2, 3, 1, 2, 3));
        for (int s = 0; s < 6; s++) {
            for (int press = -2; press <= 2; press++) {
                x.way(s, 4, press);
                due("TOLD " + press, x.presses(s, 0, 0), press);
                due("TOLD " + press, x.presses(s, 63, 7), press);
            }
        }
    }

    // ---- counting

    /** What a kind makes of what all PERSONS press, before need, bar and unless. */
    static int wanted(int kind, int[] presses, int hour) {
        int n = presses.length, sum = 0;
        int[] sides = new int[3], sorted = presses.clone();
        Arrays.sort(sorted);
        for (int press : presses) {
            sum += press;
            sides[Integer.signum(press) + 1]++;
        }
        if (n == 0) return 0;
        if (kind == 0) return most(sides[0], sides[1], sides[2]);
        if (kind == 1) return Integer.signum(sorted[(n - 1) / 2]);
        if (kind == 2) return sum == 0 ? 0 : Integer.signum((2 * sum + (sum > 0 ? n : -n)) / (2 * n));
        return Integer.signum(presses[hour % n]);
    }

    static int needed(int wanted, int need, int[] presses) {
        int with = 0;
        for (int press : presses) {
            if (Integer.signum(press) == wanted) with++;
        }
        return with < need ? 0 : wanted;
    }

    static int[] persons(int[] many, int[] presses) {
        int n = 0;
        for (int m : many) n += m;
        int[] all = new int[n];
        n = 0;
        for (int s = 0; s < many.length; s++) {
            for (int i = 0; i < many[s]; i++) all[n++] = presses[s];
        }
        return all;
    }

    static void kinds() {
        sentence("most: of -1, 0, 1 by sign that which the most press (of like ones 0, then -1). middle: the sign of the one in the middle of all "
            + "PRESSES by size (of two the lesser). mean: the sign of (twice the sum and, if the sum is above 0, how many there are, "
            + "else less how many) / (twice how many) (0 of a sum 0).");
        int[][] crews = {{1}, {2}, {1, 1}, {1, 2}, {1, 1, 1}, {2, 1, 1}, {3, 2, 1}, {2, 2, 2}, {1, 5, 1}};
        for (int[] crew : crews) kindsOf(crew, "", 0);
        sentence("if fewer than N press to that side");
        for (int need = 0; need <= 7; need++) {
            kindsOf(p(3, 2, 1), " need " + need, need);
            kindsOf(p(1, 5, 1), " need " + need, need);
        }
        NineWheel x = pressing(p(1, 1, 1, 1, 1, 1), crew(9, 9, 9, 9, 9, 9), "most need 54", "mean need 54", "middle need 54", "turns need 54");
        for (int r = 0; r < 4; r++) due("54 of 54", x.counted(r, 9, 0, r), 1);
        for (int s = 0; s < 6; s++) x.way(s, 4, -1);
        for (int r = 0; r < 4; r++) due("54 of 54 to the left", x.counted(r, 9, 0, 999), -1);
        x = pressing(p(1, 1, 1, 1, 1, 1), crew(9, 9, 9, 9, 9, 8), "most need 54", "most need 53", "mean need 54", "turns need 54");
        for (int r = 0; r < 4; r++) due("53 of 53", x.counted(r, 9, 0, 0), r == 1 ? 1 : 0);
    }

    static void kindsOf(int[] crew, String rest, int need) {
        int all = crew.length == 1 ? 5 : crew.length == 2 ? 25 : 125;
        NineWheel x = null;
        for (int n = 0; n < all; n++) {
            if (n % 40 == 0) x = at(crew(crew), "most" + rest, "middle" + rest, "mean" + rest, "turns" + rest);
            int[] presses = {n % 5 - 2, n / 5 % 5 - 2, n / 25 % 5 - 2};
            for (int s = 0; s < crew.length; s++) x.way(s, 4, presses[s]);
            int[] persons = persons(crew, presses);
            for (int kind = 0; kind < 4; kind++) {
                int hour = (n * 7 + need) % 1000;
                String what = KINDS[kind] + rest + " of " + Arrays.toString(persons) + " in HOUR " + hour;
                due(what, x.counted(kind, 27, 2, hour), needed(wanted(kind, persons, hour), need, persons));
            }
        }
    }

    static void inTurn() {
        sentence("the HOUR left over by how many there are (SORTS in order, each with its PERSONS side by side).");
        int[] crew = {2, 1, 9, 3, 1, 2}, presses = {1, -2, 0, 2, -1, 1};
        int[] persons = persons(crew, presses);
        NineWheel x = pressing(presses, crew(crew), "turns");
        for (int hour = 0; hour < 100; hour++) due("HOUR " + hour, x.counted(0, 9, 0, hour), Integer.signum(persons[hour % 18]));
        for (int hour = 900; hour < 1000; hour++) due("HOUR " + hour, x.counted(0, 0, 0, hour), Integer.signum(persons[hour % 18]));
        for (int hour = 0; hour < 36; hour++) due("HOUR " + hour + " at the last", x.counted(0, 63, 7, hour), Integer.signum(persons[hour % 18]));
        x = pressing(p(1), "sort 1;", "turns");
        for (int hour : p(0, 1, 999)) due("one PERSON", x.counted(0, 9, 0, hour), 1);
    }

    static void bars() {
        sentence("or a PERSON of a SORT of 'bar' presses to the other side.");
        for (int side = -1; side <= 1; side += 2) {
            for (int b = 0; b < 6; b++) {
                int[] persons = {2, 2, 2, 2, 2, 2}, presses = new int[6];
                persons[b] = 1;
                Arrays.fill(presses, side);
                NineWheel x = at(crew(persons), "most bar " + b, "most bar " + (b + 1) % 6, "mean bar " + b, "turns bar " + b);
                for (int s = 0; s < 6; s++) x.way(s, 4, side);
                int other = b == 0 ? 2 : 0;
                due("none presses to the other side", x.counted(0, 9, 0, other), side);
                x.way(b, 4, 0);
                due("straight bars nothing", x.counted(0, 9, 0, other), side);
                for (int hard = 1; hard <= 2; hard++) {
                    x.way(b, 4, -side * hard);
                    due("SORT " + b + " bars " + side, x.counted(0, 9, 0, other), 0);
                    due("SORT " + b + " is not of 'bar'", x.counted(1, 9, 0, other), side);
                    due("SORT " + b + " bars the mean", x.counted(2, 9, 0, other), 0);
                    due("SORT " + b + " bars in another's turn", x.counted(3, 9, 0, other), 0);
                }
                x.way(b, 4, side);
                for (int r = 0; r < 4; r++) due("SORT " + b + " bars no more", x.counted(r, 9, 0, other), side);
            }
        }
        NineWheel x = pressing(p(1, -1), crew(2, 1), "most bar 2,3,4,5", "most bar 0", "most bar 0,1", "turns bar 0");
        due("SORTS that there are not", x.counted(0, 9, 0, 0), 1);
        due("its own side", x.counted(1, 9, 0, 0), 1);
        due("one of two", x.counted(2, 9, 0, 0), 0);
        due("barred in one's own turn", x.counted(3, 9, 0, 2), 0);
    }

    static void unless() {
        sentence("'unless': if, going straight on by her HEADING, she would be on a rock in one of the next K CELLS, "
            + "the TURN is the told side whatever was COUNTED.");
        for (int k = 1; k <= 7; k++) {
            for (int far = 1; far <= 7; far++) {
                NineWheel x = pressing(p(1, -1), "ship 8 0;rocks " + far + ";" + crew(2, 1), "most unless left " + k, "mean need 54 bar 1 unless right " + k);
                due("left " + k + ", a rock " + far + " ahead", x.counted(0, 0, 2, 0), far <= k ? -1 : 1);
                due("right " + k + ", a rock " + far + " ahead", x.counted(1, 0, 2, 999), far <= k ? 1 : 0);
                due("the rock behind her", x.counted(0, 0, 6, 0), 1);
            }
        }
        for (int h = 0; h < 8; h++) {
            int rock = gone(gone(gone(27, h), h), h);
            NineWheel x = pressing(p(0), "ship 63 0;rocks " + rock + ";sort 1;", "most unless left 3", "most unless right 2");
            for (int heading = 0; heading < 8; heading++) {
                due("HEADING " + heading + ", a rock by " + h, x.counted(0, 27, heading, 0), heading == h ? -1 : 0);
                due("HEADING " + heading + ", the rock too far", x.counted(1, 27, heading, 0), 0);
            }
        }
        NineWheel x = pressing(p(0), "rocks 7,63;drift 4 1;lag 1;sort 1;", "turns unless right 7");
        due("a rock at the edge", x.counted(0, 14, 1, 0), 1);
        due("the edge ahead of the rock", x.counted(0, 5, 1, 0), 0);
        due("no drift toward the rock", x.counted(0, 47, 0, 0) * 10 + x.counted(0, 47, 2, 0), 10);
        due("the farthest rock by a slant", x.counted(0, 0, 3, 0), 1);
        sentence("Without PERSONS it is 0 (but unless).");
        x = at("rocks 16;", "most unless left 2", "middle need 0", "mean unless right 1", "turns");
        int[] counted = {-1, 0, 0, 0};
        for (int r = 0; r < 4; r++) due("RULE " + r, x.counted(r, 0, 4, 999), counted[r]);
        due("unless right 1", x.counted(2, 8, 4, 0), 1);
        x = pressing(p(1), "sort 1;", KINDS);
        x.voyage(3, 100, 99);
        for (int r = 0; r < 4; r++) due("one PERSON", x.counted(r, 0, 4, 1), 1);
        seaOf(x, "");
        for (int r = 0; r < 4; r++) due("no PERSON any more", x.counted(r, 0, 4, 1), 0);
        for (int r = 0; r < 4; r++) due("a VOYAGE without PERSONS", x.voyage(r, 50, 3), 24);
    }

    static void hoursOfCounting() {
        sentence("The TURN that is COUNTED by a RULE at a CELL with a HEADING in an HOUR ('unless', too). UNKNOWN, OUTSIDE, NOT.");
        NineWheel x = pressing(p(1, -1), "ship 1 0;rocks 0;" + crew(1, 2), "turns");
        due("HOUR 0", x.counted(0, 1, 0, 0), 1);
        due("CELL 63", x.counted(0, 63, 7, 0), 1);
        due("HOUR 999", x.counted(0, 63, 7, 999), 1);
        due("HOUR 1000", x.counted(0, 63, 7, 1000), OUTSIDE);
        due("HOUR -1", x.counted(0, 63, 7, -1), OUTSIDE);
        due("a rock", x.counted(0, 0, 0, 0), NOT);
        due("no rock behind it", x.counted(0, 1, 6, 0), 1);
    }

    // ---- runs

    /** A ship whose SORTS press as told, HOUR by HOUR by the document's words alone. */
    static final class Ship {
        final String sea, rule;
        final int start, first;
        int cell, heading, hour, driftBy = 0, driftEvery = 0, lag = 0, kind = 0, need = 0, side = 0, look = 0, q = -1;
        long seed = 0;
        int[] rocks = {}, crew = {}, told = {};
        int[] late = {0, 0};

        Ship(String sea, String rule, int cell, int heading) {
            this.sea = "ship " + cell + " " + heading + ";" + sea;
            this.rule = rule;
            start = cell;
            first = heading;
            begin(cell, heading);
        }

        Ship rocks(int... rocks) {
            this.rocks = rocks;
            return this;
        }

        Ship drift(int by, int every) {
            driftBy = by;
            driftEvery = every;
            return this;
        }

        Ship crew(int[] crew, int[] told) {
            this.crew = crew;
            this.told = told;
            return this;
        }

        Ship counts(int kind, int need, int side, int look) {
            this.kind = kind;
            this.need = need;
            this.side = side;
            this.look = look;
            return this;
        }

        Ship lag(int lag) {
            this.lag = lag;
            return this;
        }

        void begin(int cell, int heading) {
            this.cell = cell;
            this.heading = heading;
            hour = 0;
            late = new int[] {0, 0};
        }

        /** A new object of this sea, its RULE 0. */
        NineWheel made() {
            StringBuilder text = new StringBuilder(sea);
            for (int i = 0; i < rocks.length; i++) text.append(i == 0 ? "rocks " : ",").append(rocks[i]);
            if (rocks.length > 0) text.append(';');
            if (driftEvery > 0) text.append("drift ").append(driftBy).append(' ').append(driftEvery).append(';');
            text.append("lag ").append(lag).append(';');
            if (!sea.contains("sort")) text.append(BoundaryTests.crew(crew));
            return pressing(told, text.toString(), rule);
        }

        boolean rock(int c) {
            for (int r : rocks) {
                if (r == c) return true;
            }
            return false;
        }

        boolean struck() {
            return rock(cell);
        }

        int draw(int n) {
            seed = (seed * 1103515245L + 12345L) % 2147483648L;
            return (int) (seed / 65536L % n);
        }

        int[] presses() {
            int[] all = persons(crew, told);
            for (int i = 0; i < all.length && q >= 0; i++) {
                if (draw(100) < q) all[i] = draw(3) - 1;
            }
            return all;
        }

        int turn() {
            int[] all = presses();
            boolean dodge = false;
            for (int i = 0, c = cell; i < look; i++) {
                c = gone(c, heading);
                dodge |= rock(c);
            }
            int counted = dodge ? 0 : needed(wanted(kind, all, hour), need, all);
            int due = lag == 0 ? counted : late[0];
            if (lag == 1) late[0] = counted;
            if (lag == 2) late = new int[] {late[1], counted};
            return dodge ? side : due;
        }

        int step() {
            int turn = turn();
            turnBy(turn);
            return turn;
        }

        void turnBy(int turn) {
            heading = turned(heading, turn);
            cell = gone(cell, heading);
            if (!struck() && driftEvery > 0 && (hour + 1) % driftEvery == 0) cell = gone(cell, driftBy);
            hour++;
        }

        int period() {
            int n = 0;
            for (int many : crew) n += many;
            return Math.max(1, n) * Math.max(1, driftEvery);
        }

        String state() {
            return cell + " " + heading + " " + late[0] + " " + late[1] + " " + hour % period();
        }
    }

    static Ship[] fleet() {
        int[] six = {1, 2, 3, 1, 2, 3};
        return new Ship[] {
            new Ship("", "turns", 56, 3).rocks(57).crew(p(4, 1, 9, 9, 9, 7), p(0, 1, 0, 0, 0, 0)).counts(3, 0, 0, 0),
            new Ship("", "turns", 56, 3).rocks(57).crew(p(5, 1, 9, 9, 9, 6), p(0, 1, 0, 0, 0, 0)).counts(3, 0, 0, 0),
            new Ship("", "turns", 56, 3).crew(p(4, 1, 9, 9, 9, 7), p(0, 1, 0, 0, 0, 0)).counts(3, 0, 0, 0),
            new Ship("", "most", 56, 4).drift(4, 8).crew(p(9, 9, 9, 9, 9, 5), new int[6]),
            new Ship("", "most", 48, 4).drift(4, 8).crew(p(9, 9, 9, 9, 9, 5), new int[6]),
            new Ship("", "most", 56, 4),
            new Ship("", "most", 56, 4).drift(4, 9),
            new Ship("", "most", 56, 4).crew(p(3), p(0)),
            new Ship("", "most", 0, 4).crew(p(9, 4), p(0, 0)).drift(2, 9).lag(2),
            new Ship("", "most", 56, 4).crew(p(1), p(1)).lag(1),
            new Ship("", "most", 56, 4).crew(p(1), p(-2)).lag(2),
            new Ship("", "middle", 27, 0).crew(p(2, 1), p(1, -1)).drift(3, 2),
            new Ship("", "mean unless left 2", 27, 4).crew(p(2, 1), p(0, 2)).rocks(11, 20, 43, 45).counts(2, 0, -1, 2),
            new Ship("", "most unless right 3", 27, 4).crew(p(1), p(-1)).rocks(11, 20, 43, 45).counts(0, 0, 1, 3).lag(1),
            new Ship("", "most unless right 3", 27, 4).crew(p(1), p(-1)).rocks(11, 20, 43, 45).counts(0, 0, 1, 3).lag(2),
            new Ship("", "turns need 2 unless left 1", 0, 4).crew(six, p(1, 2, -1, 0, -1, 1)).rocks(32, 60, 7).counts(3, 2, -1, 1).drift(1, 7).lag(2),
            new Ship("", "turns", 0, 4).crew(six, p(1, 2, -1, 0, -1, 1)).counts(3, 0, 0, 0).drift(1, 7).lag(2),
            new Ship("", "turns", 0, 4).crew(p(3, 1, 4), p(1, -1, 0)).counts(3, 0, 0, 0).drift(6, 3).lag(1),
            new Ship("", "most", 0, 4).rocks(8),
            new Ship("", "most", 0, 4).rocks(16).lag(2).crew(p(1), p(1)),
            new Ship("", "most", 0, 4).rocks(9).drift(2, 1).crew(p(1), p(0)),
            new Ship("", "most", 0, 4).rocks(8, 9).drift(2, 1).crew(p(1), p(0)),
        };
    }

    static void wholeRuns() {
        sentence("HOUR by HOUR, to 400: STRUCK: the HOUR in which she strikes (the number of HOURS gone then); ROUND: the first HOUR (to 400) "
            + "at which all is as it was at an earlier one: CELL, HEADING, what is late, HOUR left over by PERIOD "
            + "(how many PERSONS there are, 1 at least, times K of the drift, 1 without).");
        for (Ship ship : fleet()) wholeRun(ship);
        sentence("what = 0 STRUCK, 1 ROUND, 2 how many HOURS between that and the earlier one; NONE: not to 400 (what = 1, 2: NONE, too, if STRUCK).");
        int[][] due = {{400, NONE, NONE}, {NONE, NONE, NONE}, {NONE, NONE, NONE}, {NONE, 400, 400}, {NONE, NONE, NONE}, {NONE, 1, 1}, {NONE, 9, 9}, {NONE, 3, 3}};
        for (int i = 0; i < due.length; i++) {
            NineWheel x = fleet()[i].made();
            for (int what = 0; what < 3; what++) due("ship " + i + ", run(0, " + what + ")", x.run(0, what), due[i][what]);
        }
        due("struck by the first TURN", fleet()[18].made().run(0, 0), 1);
        sentence("COMES: the HOUR (to 400); NONE.");
        Ship[] fleet = fleet();
        due("in HOUR 400", fleet[2].made().comes(0, 57), 400);
        due("not to 400", fleet[1].made().comes(0, 57), NONE);
        due("never", fleet[3].made().comes(0, 48), NONE);
        sentence("the first HOUR at which she is there (0: at once; also as she is STRUCK there)");
        due("at once", fleet[2].made().comes(0, 56), 0);
        due("STRUCK in HOUR 400", fleet[0].made().comes(0, 57), 400);
        due("STRUCK in HOUR 1", fleet[18].made().comes(0, 8), 1);
        due("behind the strike", fleet[18].made().comes(0, 16), NONE);
        sentence("At HOUR t (0 .. 400) of a RUN: what = 0 the CELL, 1 HEADING; NONE: it was STRUCK ahead of that.");
        due("CELL at 400", fleet[1].made().at(0, 400, 0), 58);
        due("the rock at 400", fleet[0].made().at(0, 400, 0), 57);
        due("HEADING at 400", fleet[0].made().at(0, 400, 1), 6);
        NineWheel x = fleet[18].made();
        for (int t : p(0, 1, 2, 400)) due("CELL at " + t, x.at(0, t, 0), t == 0 ? 0 : t == 1 ? 8 : NONE);
        for (int t : p(0, 1, 2, 400)) due("HEADING at " + t, x.at(0, t, 1), t <= 1 ? 4 : NONE);
        for (int t : p(-1, 401)) due("HOUR " + t, x.at(0, t, 0), OUTSIDE);
    }

    static void wholeRun(Ship ship) {
        String name = ship.sea + " by " + ship.rule + ", told " + Arrays.toString(ship.told);
        int[] comes = new int[64];
        Arrays.fill(comes, NONE);
        String[] states = new String[401];
        int struck = NONE, round = NONE, between = NONE;
        NineWheel cells = ship.made(), headings = ship.made(), x = ship.made();
        for (int t = 0; t <= 400; t++) {
            due("CELL at " + t + " of " + name, cells.at(0, t, 0), struck >= 0 ? NONE : ship.cell);
            due("HEADING at " + t + " of " + name, headings.at(0, t, 1), struck >= 0 ? NONE : ship.heading);
            if (struck >= 0) continue;
            if (comes[ship.cell] < 0) comes[ship.cell] = t;
            states[t] = ship.state();
            for (int e = 0; e < t && round < 0; e++) {
                if (!states[e].equals(states[t])) continue;
                round = t;
                between = t - e;
            }
            if (ship.struck()) struck = t;
            else ship.step();
        }
        due("STRUCK of " + name, x.run(0, 0), struck);
        due("ROUND of " + name, x.run(0, 1), struck >= 0 ? NONE : round);
        due("between of " + name, x.run(0, 2), struck >= 0 ? NONE : between);
        for (int c = 0; c < 64; c++) due("comes to " + c + " of " + name, x.comes(0, c), comes[c]);
        ship.begin(ship.start, ship.first);
    }

    static void lags() {
        sentence("the TURN that is COUNTED in an HOUR is done G HOURS later; in the first G HOURS 0 is done; 'unless' looks at once: "
            + "its TURN is done in that HOUR, what would have been done then is lost, and 0 is COUNTED in it.");
        // 'unless' in HOUR 0, with a lag of 2: 0 is done in HOURS 1 and 2; in HOURS 0 and 1: 0 is done in HOURS 2 and 3.
        headings("ship 0 4;rocks 8;lag 2;sort 1;", "most unless left 1", 1, p(4, 3, 3, 3, 4, 5));
        headings("ship 0 4;rocks 8,18;lag 2;sort 1;", "most unless left 1", 1, p(4, 3, 2, 2, 2, 3));
        headings("ship 0 4;rocks 8;lag 1;sort 1;", "most unless left 1", 1, p(4, 3, 3, 4, 5, 6));
        headings("ship 0 4;rocks 8;sort 1;", "most unless left 1", 1, p(4, 3, 4, 5, 6));
        headings("ship 0 4;lag 2;sort 1;", "most", -1, p(4, 4, 4, 3, 2, 1, 0, 7));
        headings("ship 0 4;lag 1;sort 1;", "most", -1, p(4, 4, 3, 2, 1, 0, 7));
        headings("ship 0 4;lag 0;sort 1;", "most", -1, p(4, 3, 2, 1, 0, 7));
    }

    static void headings(String sea, String rule, int told, int[] headings) {
        NineWheel x = pressing(p(told), sea, rule);
        for (int t = 0; t < headings.length; t++) due("HEADING at " + t + " of " + sea + rule, x.at(0, t, 1), headings[t]);
    }

    static void logging() {
        sentence("THE LOG is a row of TURNS (40 at most).");
        NineWheel x = at("ship 56 4;", "most");
        for (int i = 1; i <= 39; i++) due("TURN " + i, x.log(0), i);
        due("39 alike", x.judge(0), NONE);
        due("the 40th", x.log(1), 40);
        due("the 40th is otherwise", x.judge(0), 39);
        for (int turn = -1; turn <= 1; turn++) due("a 41st", x.log(turn), FULL);
        for (int turn : p(-2, 2, LOW, HIGH)) due("a 41st that is none", x.log(turn), OUTSIDE);
        due("how many", x.count(1), 40);
        sentence("THE LOG is empty: how many it had.");
        due("clear()", x.clear(), 40);
        due("clear() again", x.clear(), 0);
        due("how many", x.count(1), 0);
        due("judge of none", x.judge(0), NONE);
        for (int i = 1; i <= 40; i++) due("TURN " + i + " again", x.log(0), i);
        due("40 alike", x.judge(0), NONE);
        sentence("A TURN behind THE LOG: how many it has.");
        x.clear();
        for (int turn : p(-2, 2, 3, LOW, HIGH)) due("TURN " + turn, x.log(turn), OUTSIDE);
        for (int turn = -1; turn <= 1; turn++) due("TURN " + turn, x.log(turn), turn + 2);
    }

    static void judging() {
        sentence("JUDGED: the first HOUR of it in which a RUN by a RULE turns otherwise (NONE; a RUN ends when STRUCK: the HOUR behind that).");
        for (int other = 0; other < 40; other++) {
            NineWheel x = at("ship 56 4;", "most");
            for (int i = 0; i < 40; i++) x.log(i < other ? 0 : i % 2 == 0 ? 1 : -1);
            due("otherwise from HOUR " + other, x.judge(0), other);
        }
        // Nine PERSONS in turn: the fifth right TURN, in HOUR 36 and i, takes her out of her corner onto the rock.
        for (int i = 1; i <= 4; i++) {
            Ship ship = new Ship("", "turns", 56, 3).rocks(48).crew(p(i, 1, 8 - i), p(0, 1, 0)).counts(3, 0, 0, 0);
            NineWheel x = ship.made();
            while (ship.hour < 40 && !ship.struck()) x.log(ship.step());
            int gone = ship.hour;
            due("STRUCK", x.run(0, 0), 37 + i);
            due("as long as the RUN (" + gone + ")", x.judge(0), NONE);
            while (x.count(1) < 40) x.log(0);
            due("40 TURNS, STRUCK behind " + (37 + i), x.judge(0), i < 3 ? 37 + i : NONE);
        }
        NineWheel x = at("rocks 24;", "most");
        x.log(0);
        x.log(0);
        due("shorter than the RUN", x.judge(0), NONE);
        x.log(1);
        due("the striking TURN is otherwise", x.judge(0), 2);
        x.clear();
        for (int i = 0; i < 3; i++) x.log(0);
        due("STRUCK by the last", x.judge(0), NONE);
        x.log(0);
        due("one more", x.judge(0), 3);
        x.log(-1);
        due("two more", x.judge(0), 3);
        x.clear();
        x.log(0);
        x.log(-1);
        for (int i = 0; i < 38; i++) x.log(0);
        due("otherwise ahead of the strike", x.judge(0), 1);
        x = pressing(p(-1), "ship 27 4;lag 2;sort 1;", "most");
        for (int turn : p(0, 0, -1, -1)) x.log(turn);
        due("the TURNS that are done", x.judge(0), NONE);
        x.way(0, 4, 1);
        due("another WAY", x.judge(0), 2);
        for (int told = -1; told <= 1; told++) {
            for (int turn = -1; turn <= 1; turn++) {
                x = pressing(p(told), "sort 1;", "most");
                x.log(turn);
                due("TURN " + turn + " where " + told + " is pressed", x.judge(0), told == turn ? NONE : 0);
            }
        }
    }

    // ---- best courses, gains

    /** The greatest sum of WORTH in the HOURS from this one to T, with any TURNS. */
    static int bestSum(Ship ship, int cell, int heading, int hour, int t, int[] worth, int loss) {
        if (hour == t) return 0;
        int greatest = LOW;
        for (int turn : p(0, -1, 1)) greatest = Math.max(greatest, sumBy(ship, turn, cell, heading, hour, t, worth, loss));
        return greatest;
    }

    static int sumBy(Ship ship, int turn, int cell, int heading, int hour, int t, int[] worth, int loss) {
        int h = turned(heading, turn), next = gone(cell, h);
        if (!ship.rock(next) && ship.driftEvery > 0 && (hour + 1) % ship.driftEvery == 0) next = gone(next, ship.driftBy);
        if (ship.rock(next)) return loss * (t - hour);
        return worth[next] + bestSum(ship, next, h, hour + 1, t, worth, loss);
    }

    static int[] worths(NineWheel x, int set) {
        int[] worth = new int[64];
        for (int c = 0; c < 64; c++) worth[c] = x.worth(c, set);
        return worth;
    }

    static Ship[] liking() {
        String likes = "sort 2 likes 0 9,63 9,9 -3,54 4,28 1 fears 1;sort 3 likes 7 8,56 8,27 2;";
        return new Ship[] {
            new Ship(likes, "most", 5, 4).rocks(ROCKY_ROCKS).drift(3, 2).crew(p(2, 3), p(0, 0)),
            new Ship(likes, "most", 63, 7).rocks(46, 55, 62, 12).crew(p(2, 3), p(0, 0)),
            new Ship(likes, "most", 0, 0).rocks(1, 8, 9).drift(4, 1).crew(p(2, 3), p(0, 0)),
        };
    }

    static void bestCourses() {
        sentence("the greatest sum of WORTH of the CELLS at which she is behind each HOUR (with drift; STRUCK: -99 for each PERSON of it then, "
            + "and each HOUR more), TURN by TURN as she likes.");
        for (Ship ship : liking()) {
            for (int set = 0; set < 4; set++) {
                int[] worth = worths(ship.made(), set);
                int loss = -99 * (set % 2 * 2 + set / 2 * 3);
                NineWheel x = ship.made();
                for (int place = 0; place < 512; place++) {
                    if (place % 200 == 0) x = ship.made();
                    int c = place / 8, h = place % 8, t = 1 + (place + set) % 3;
                    String what = "best(" + set + ", " + c + ", " + h + ", " + t + ") on " + ship.sea;
                    due(what, x.best(set, c, h, t), ship.rock(c) ? NOT : bestSum(ship, c, h, 0, t, worth, loss));
                }
            }
        }
        struckLater();
        sentence("T HOURS (1 .. 24)");
        NineWheel x = at("sort 1 likes 8 9,0 1;sort 2 likes 63 1;", "most");
        for (int t = 1; t <= 24; t++) {
            due("best in " + t, x.best(1, 8, 6, t), 9 * t);
            due("best by 63 in " + t, x.best(2, 63, 3, t), 2 * t);
            due("best by 0 in " + t, x.best(1, 0, 7, t), t <= 2 ? t : 2 + 9 * (t - 2));
        }
        NineWheel back = at("drift 3 1;sort 1 likes 63 9;");
        for (int t = 1; t <= 24; t++) due("away and drifting back in " + t, back.best(1, 63, 7, t), 9 * t);
        for (int t : p(0, 25, -1, LOW, HIGH)) {
            due("best, T " + t, x.best(1, 8, 6, t), OUTSIDE);
            due("course, T " + t, x.course(1, t, 0), OUTSIDE);
            due("value, T " + t, x.value(0, 1, t), OUTSIDE);
            due("gain, T " + t, x.gain(0, 1, t), OUTSIDE);
            due("bestRule, T " + t, x.bestRule(1, t, 0), OUTSIDE);
        }
        due("an empty SET", x.best(0, 63, 7, 24), 0);
        x = at("ship 0 4;lag 2;sort 1 likes 9 5;", "most");
        due("no lag", x.best(1, 0, 4, 1), 5);
        due("a TURN that is lagged no HOUR", x.course(1, 1, 0), -1);
        due("a RUN has it", x.value(0, 1, 1), 0);
    }

    /** Walled in by rocks, so that however she turns she is STRUCK in her second HOUR, or in her third. */
    static void struckLater() {
        String likes = "sort 2 likes 28 9,29 5;sort 1;";
        NineWheel second = pressing(p(1, 1), "ship 27 2;rocks 20,36,21,29,37;" + likes.replace(",29 5", ""), "most");
        NineWheel third = pressing(p(1, 1), "ship 27 2;rocks 20,36,21,37,22,30,38;" + likes, "most");
        for (int t = 1; t <= 24; t++) {
            int one = 2 * 9, two = one + (t > 1 ? 2 * 5 : 0);
            due("STRUCK in the second of " + t, second.best(1, 27, 2, t), one - 198 * (t - 1));
            due("STRUCK in the third of " + t, third.best(1, 27, 2, t), two - 198 * Math.max(0, t - 2));
            due("both SORTS STRUCK in the second of " + t, second.best(3, 27, 2, t), one - 297 * (t - 1));
            due("STRUCK in the second of " + t + ", less STRUCK at once", second.gain(0, 1, t), one + 198);
            due("STRUCK in the third of " + t + ", less STRUCK at once", third.gain(0, 3, t), two + 297 * Math.min(t, 2));
        }
        for (int j = 0; j < 5; j++) {
            due("TURN " + j + " of one STRUCK in the second HOUR", second.course(1, 24, j), j < 2 ? 0 : 9);
            due("TURN " + j + " of one STRUCK in the third HOUR", third.course(1, 24, j), j < 3 ? 0 : 9);
        }
    }

    static void courses() {
        sentence("(of like ones 0, then -1, then 1, TURN by TURN); 9: there is none such (STRUCK ahead of it, or beyond T).");
        for (Ship ship : liking()) {
            for (int set = 0; set < 4; set++) {
                NineWheel x = ship.made();
                int[] worth = worths(x, set);
                int loss = -99 * (set % 2 * 2 + set / 2 * 3);
                for (int t = 1; t <= 6; t++) {
                    ship.begin(ship.start, ship.first);
                    for (int j = 0; j < t + 2; j++) {
                        int want = 9, greatest = LOW;
                        for (int turn : p(0, -1, 1)) {
                            if (j >= t || ship.struck()) continue;
                            int sum = sumBy(ship, turn, ship.cell, ship.heading, j, t, worth, loss);
                            if (sum > greatest) want = turn;
                            greatest = Math.max(greatest, sum);
                        }
                        due("course(" + set + ", " + t + ", " + j + ") on " + ship.sea, x.course(set, t, j), want);
                        if (want != 9) ship.turnBy(want);
                    }
                }
                ship.begin(ship.start, ship.first);
            }
        }
        NineWheel x = at("ship 8 6;sort 1 likes 8 9;");
        for (int j = 0; j < 24; j++) due("TURN " + j + " of 24", x.course(1, 24, j), 0);
        for (int j : p(24, 25, HIGH, -1, -24, LOW)) due("TURN " + j + " of 24", x.course(1, 24, j), 9);
        for (int j : p(1, 2, -1)) due("TURN " + j + " of one", x.course(1, 1, j), 9);
        x = at("ship 0 3;rocks 1,8,9;sort 1;");
        for (int j = 0; j < 5; j++) due("TURN " + j + " of one STRUCK at once", x.course(1, 4, j), j == 0 ? 0 : 9);
        for (int j = 0; j < 5; j++) due("TURN " + j + " for none", x.course(0, 4, j), j == 0 ? 0 : 9);
    }

    static void valuesOf(Ship ship) {
        for (int set : p(0, 1, (1 << ship.crew.length) - 1)) {
            if (set >= 1 << ship.crew.length) continue;
            NineWheel x = ship.made();
            int[] worth = worths(x, set);
            int loss = 0, sum = 0;
            for (int s = 0; s < ship.crew.length; s++) loss -= (set >> s & 1) * 99 * ship.crew[s];
            ship.begin(ship.start, ship.first);
            for (int t = 1; t <= 24; t++) {
                if (!ship.struck()) ship.step();
                sum += ship.struck() ? loss : worth[ship.cell];
                due("value(0, " + set + ", " + t + ") on " + ship.sea, x.value(0, set, t), sum);
            }
        }
    }

    static void values() {
        sentence("WORTH OF A RUN in T HOURS to a SET: likewise by a RULE (lag, too).");
        for (Ship ship : fleet()) valuesOf(ship);
        for (Ship ship : liking()) valuesOf(ship);
        NineWheel x = pressing(p(0), "rocks 24;sort 2 likes 0 9,8 1,16 3;", "most");
        int[] value = {2, 8, 8 - 198, 8 - 396, 8 - 594};
        for (int t = 1; t <= 5; t++) due("value in " + t, x.value(0, 1, t), value[t - 1]);
        x = pressing(p(1), "ship 27 4;lag 1;sort 1 likes 35 1,42 5,43 3,34 9;", "most");
        due("with lag", x.value(0, 1, 2), 1 + 5);
    }

    /** The greatest WORTH by a RULE without 'unless', while the SET presses alike; no SET: as all press. */
    static int pressingSum(Ship ship, int set, int blind, int cell, int heading, int hour, int t, int[] worth, int loss) {
        if (hour == t) return 0;
        int greatest = LOW;
        for (int press = -2; press <= 2; press++) {
            int[] told = ship.told.clone();
            for (int s = 0; s < told.length; s++) {
                if ((set >> s & 1) != 0) told[s] = press;
            }
            int[] count = new int[3];
            for (int s = 0; s < told.length; s++) {
                if (((blind & ~set) >> s & 1) == 0) count[Integer.signum(told[s]) + 1] += ship.crew[s];
            }
            for (int s = 0; s < told.length; s++) {
                if (((blind & ~set) >> s & 1) != 0) told[s] = most(count[0], count[1], count[2]);
            }
            int[] all = persons(ship.crew, told);
            int turn = needed(wanted(ship.kind, all, hour), ship.need, all);
            int h = turned(heading, turn), next = gone(cell, h), sum = loss * (t - hour);
            if (!ship.rock(next) && ship.driftEvery > 0 && (hour + 1) % ship.driftEvery == 0) next = gone(next, ship.driftBy);
            if (!ship.rock(next)) sum = worth[next] + pressingSum(ship, set, blind, next, h, hour + 1, t, worth, loss);
            greatest = Math.max(greatest, sum);
            if (set == 0) break;
        }
        return greatest;
    }

    static int gainOf(Ship ship, int set, int blind, int t, int[] worth) {
        int loss = 0;
        for (int s = 0; s < ship.crew.length; s++) loss -= (set >> s & 1) * 99 * ship.crew[s];
        int pressing = pressingSum(ship, set, blind, ship.start, ship.first, 0, t, worth, loss);
        return pressing - pressingSum(ship, 0, blind, ship.start, ship.first, 0, t, worth, loss);
    }

    static Ship[] quarrels() {
        String three = "sort 1 likes 36 5,34 2,44 7,45 1;sort 2 likes 35 3,43 3,42 9 fears 1;sort 1 likes 37 9,36 1,45 8;";
        String four = "sort 1 likes 36 9;sort 1 likes 34 4,42 5;sort 5 likes 35 1;sort 4 likes 36 2,43 4;";
        return new Ship[] {
            new Ship(three, "most", 28, 4).crew(p(1, 2, 1), p(0, 1, -1)).rocks(45, 50).drift(2, 3).lag(2),
            new Ship(three, "middle need 2", 28, 4).crew(p(1, 2, 1), p(0, 1, -2)).counts(1, 2, 0, 0),
            new Ship(three, "mean", 28, 4).crew(p(1, 2, 1), p(0, 1, 0)).counts(2, 0, 0, 0).lag(1),
            new Ship(three, "turns", 28, 4).crew(p(1, 2, 1), p(1, 0, -1)).counts(3, 0, 0, 0).rocks(35),
            new Ship(four, "most need 5", 28, 4).crew(p(1, 1, 5, 4), p(2, 0, 1, -1)).counts(0, 5, 0, 0),
            new Ship(four, "mean", 28, 4).crew(p(1, 1, 5, 4), p(0, 0, 1, -1)).counts(2, 0, 0, 0),
        };
    }

    static void gains() {
        sentence("the greatest WORTH to the SET, if each of its SORTS presses in each HOUR any of -2, -1, 0, 1, 2, all of it alike "
            + "(the others by their WAYS; to BLIND ones those of the SET are not BLIND), no lag, from her place, less WORTH OF A RUN to it (no lag).");
        for (Ship ship : quarrels()) {
            int sorts = ship.crew.length;
            int[][] worths = new int[1 << sorts][];
            for (int set = 0; set < 1 << sorts; set++) worths[set] = worths(ship.made(), set);
            for (int blind = 0; blind < 1 << sorts; blind++) {
                NineWheel x = ship.made();
                for (int s = 0; s < sorts; s++) {
                    if ((blind >> s & 1) != 0) x.way(s, 3, 0);
                }
                for (int t = 1; t <= 3; t++) {
                    int pact = NONE;
                    for (int set = 0; set < 1 << sorts; set++) {
                        int gain = gainOf(ship, set, blind, t, worths[set]), apart = 0;
                        due("gain(0, " + set + ", " + t + "), BLIND " + blind + ", on " + ship.sea + ship.rule, x.gain(0, set, t), gain);
                        for (int s = 0; s < sorts; s++) {
                            if ((set >> s & 1) != 0) apart += gainOf(ship, 1 << s, blind, t, worths[1 << s]);
                        }
                        if (pact == NONE && Integer.bitCount(set) > 1 && gain > apart) pact = set;
                    }
                    due("pact(0, " + t + "), BLIND " + blind + ", on " + ship.sea + ship.rule, x.pact(0, t), pact);
                }
            }
        }
        // Alone she turns as he presses, so that his GAIN is what THE BEST COURSE has above his WAY.
        NineWheel x = pressing(p(1), "ship 27 0;rocks 20;drift 5 2;lag 1;sort 3 likes 9 5,63 9,56 -9,10 2 fears 1;", "most");
        NineWheel swift = pressing(p(1), "ship 27 0;rocks 20;drift 5 2;sort 3 likes 9 5,63 9,56 -9,10 2 fears 1;", "most");
        for (int t = 1; t <= 24; t++) due("gain in " + t, x.gain(0, 1, t), x.best(1, 27, 0, t) - swift.value(0, 1, t));
        for (int t : p(0, 25)) due("gain in " + t, x.gain(0, 1, t), OUTSIDE);
        due("gain of none", x.gain(0, 0, 24), 0);
        for (int side = -1; side <= 1; side += 2) {
            String sea = "ship 28 4;sort 1 likes " + (36 - side) + " 7;";
            due("a mean of four that only twice as hard a press turns", pressing(p(0, 0), sea + "sort 3;", "mean").gain(0, 1, 1), 7);
            due("a mean of five that none turns", pressing(p(0, 0), sea + "sort 4;", "mean").gain(0, 1, 1), 0);
        }
    }

    static void pacts() {
        sentence("the least SET of two SORTS or more with a GAIN above the GAINS of its SORTS, each alone, together (T 1 .. 12 here); NONE.");
        String three = "ship 0 4;sort 1 likes 9 5;sort 1 likes 9 5;sort 1 likes 9 5;";
        due("only all three", pressing(p(0, 0, 0), three, "most need 3").pact(0, 1), 7);
        due("any two", pressing(p(0, 0, 0), three, "most need 2").pact(0, 1), 3);
        due("one turns for all", pressing(p(0, 0, 0), three, "turns").pact(0, 1), 3);
        due("none needs another", pressing(p(0, 0, 0), "ship 0 4;sort 1 likes 9 5;sort 1;sort 1;", "turns").pact(0, 1), NONE);
        due("no three are enough", pressing(p(0, 0, 0), three, "most need 4").pact(0, 1), NONE);
        due("above by 1", pressing(p(0, 0), "ship 0 4;sort 1 likes 9 1;sort 1;", "most need 2").pact(0, 1), 3);
        due("not above", pressing(p(0, 0), "ship 0 4;sort 1;sort 1;", "most need 2").pact(0, 1), NONE);
        due("the last two of six", pressing(new int[6], "ship 0 4;" + crew(1, 1, 1, 1) + "sort 9 likes 9 5;sort 9 likes 9 5;", "most need 18").pact(0, 1), 48);
        due("all of six", pressing(new int[6], "ship 0 4;" + many(6, "sort 9 likes 9 5;"), "most need 54").pact(0, 1), 63);
        due("five of six", pressing(new int[6], "ship 0 4;" + many(6, "sort 9 likes 9 5;"), "most need 45").pact(0, 1), 31);
        NineWheel x = pressing(p(0, 0, 0), "ship 1 4;sort 1 likes 11 5;sort 1;sort 1 likes 24 9;", "turns");
        due("another's GAIN alone is not of the pact", x.pact(0, 3), 3);
        due("his GAIN alone", x.gain(0, 4, 3), 9);
        due("in two HOURS", x.pact(0, 2), 3);
        due("in one HOUR", x.pact(0, 1), NONE);
        for (int t = 1; t <= 12; t++) due("one SORT in " + t, at("sort 9 likes 9 9;", "most").pact(0, t), NONE);
        for (int t = 1; t <= 12; t++) due("no SORT in " + t, at("", "most").pact(0, t), NONE);
        for (int t : p(0, 13, 24, -1, LOW, HIGH)) due("T " + t, x.pact(0, t), OUTSIDE);
        for (Ship ship : quarrels()) {
            for (int t = 4; t <= 12; t += 4) {
                x = ship.made();
                int least = NONE, sets = 1 << ship.crew.length;
                for (int set = sets - 1; set > 0; set--) {
                    int apart = 0;
                    for (int s = 0; s < ship.crew.length; s++) {
                        if ((set >> s & 1) != 0) apart += x.gain(0, 1 << s, t);
                    }
                    if (Integer.bitCount(set) > 1 && x.gain(0, set, t) > apart) least = set;
                }
                due("pact in " + t + " of " + ship.sea + ship.rule, x.pact(0, t), least);
            }
        }
    }

    // ---- from all sides, the best rule

    static void allSides() {
        sentence("of 512 beginnings (each CELL that is no rock, each HEADING; HOUR 0) how many RUNS (to 400) are STRUCK, go ROUND, come to a CELL.");
        int[] sides = {0, 3, 4, 7, 11, 12, 15, 16, 17, 18};
        for (int i : sides) {
            Ship ship = fleet()[i];
            int struck = 0, round = 0;
            int[] comes = new int[64];
            for (int place = 0; place < 512; place++) {
                ship.begin(place / 8, place % 8);
                if (ship.struck()) continue;
                boolean[] been = new boolean[64];
                Set<String> states = new HashSet<>();
                boolean again = false;
                for (int hour = 0; hour <= 400; hour++) {
                    been[ship.cell] = true;
                    again |= !states.add(ship.state());
                    if (ship.struck() || hour == 400) break;
                    ship.step();
                }
                if (ship.struck()) struck++;
                else if (again) round++;
                for (int c = 0; c < 64; c++) comes[c] += been[c] ? 1 : 0;
            }
            NineWheel x = ship.made();
            String name = " from all sides of " + ship.sea + " by " + ship.rule + ", told " + Arrays.toString(ship.told);
            due("STRUCK" + name, x.sides(0, 63, 0), struck);
            due("ROUND" + name, x.sides(0, 0, 1), round);
            for (int c = 0; c < 64; c++) due("come to " + c + name, x.sides(0, c, 2), comes[c]);
        }
        due("ROUND by a PERIOD of 400", fleet()[3].made().sides(0, 0, 1), 36);
        due("no rocks: STRUCK", at("", "most").sides(0, 0, 0), 0);
        due("no rocks: ROUND", at("", "most").sides(0, 63, 1), 512);
        StringBuilder rocks = new StringBuilder("rocks 0");
        for (int c = 1; c < 63; c++) rocks.append(',').append(c);
        NineWheel x = at("ship 63 0;" + rocks + ";", "most");
        due("63 rocks: STRUCK", x.sides(0, 0, 0), 3);
        due("63 rocks: ROUND", x.sides(0, 0, 1), 5);
        due("63 rocks: come to the only CELL", x.sides(0, 63, 2), 8);
        due("63 rocks: come to a rock", x.sides(0, 62, 2) * 100 + x.sides(0, 54, 2) * 10 + x.sides(0, 55, 2), 111);
        due("63 rocks: come to a far one", x.sides(0, 0, 2), 0);
        x = at("ship 63 0;rocks 9;" + crew(2, 1, 3), "turns bar 0");
        for (int way = 0; way < 3; way++) {
            x.way(way, 4, way - 1);
            int struck = x.sides(0, 0, 0);
            NineWheel y = at("ship 63 0;rocks 9;" + crew(2, 1, 3), "turns bar 0");
            for (int s = 0; s <= way; s++) y.way(s, 4, s - 1);
            y.presses(0, 1, 1);
            y.run(0, 0);
            due("as the first call behind a WAY", struck, y.sides(0, 0, 0));
        }
    }

    static void bestRules() {
        sentence("of kinds in order, N 0 to 9, without 'unless', left 1, right 1, left 2, right 2: the first with the greatest WORTH OF A RUN: "
            + "told as 50 times the kind, 5 times N, and 0 to 4.");
        String likes = "sort 2 likes 9 5,18 3 fears 1;sort 3 likes 63 9,17 1;sort 1 likes 8 9,16 9,25 -9;";
        bestRuleOf("ship 0 4;rocks 16;", likes, p(0, 0, 0), 1);
        bestRuleOf("ship 0 4;rocks 24,34;lag 1;drift 2 3;", likes, p(-1, 1, 0), 9);
        bestRuleOf("ship 4 4;rocks 20,13;", "sort 9 likes 11 5;sort 1;", p(0, 0), 24);
        bestRuleOf("ship 4 4;rocks 28;", "sort 9 likes 13 5;sort 4 likes 12 9,19 8;", p(1, -1), 2);
        bestRuleOf("ship 27 0;rocks 0,7,11,56,63;", "sort 4 likes 2 9,19 -3;sort 5 likes 61 7;", p(2, -2), 24);
        // Eight of 26 are to the left and have the first turns: only when nine are needed in turn she goes straight.
        String sea = "ship 4 4;rocks 28;sort 8;sort 9 likes 12 5,19 5;sort 9 likes 12 5,19 5;";
        NineWheel x = pressing(p(-1, 2, 2), sea);
        due("the last of all", x.bestRule(6, 2, 0), 199);
        due("its worth", x.bestRule(6, 2, 1), 180);
        x = pressing(p(1, 1), "ship 4 4;rocks 28;sort 8 likes 12 5,19 5;");
        due("most, nine needed, right 2", x.bestRule(1, 2, 0), 49);
        due("its worth", x.bestRule(1, 2, 1), 80);
        x = pressing(p(1), "ship 4 4;rocks 20;sort 9 likes 12 5;");
        due("nine of nine press: the first", x.bestRule(1, 1, 0), 0);
        kindsAlone();
        x = at("ship 4 4;sort 9;", "most bar 0 unless left 7");
        for (int set = 0; set < 2; set++) {
            due("of like ones the first", x.bestRule(set, 24, 0), 0);
            due("all are worth 0", x.bestRule(set, 24, 1), 0);
        }
        x = pressing(p(1, 1, -1), "ship 4 4;sort 1 likes 11 9;sort 1;sort 1;", "most bar 2 unless left 7");
        due("no bar is left of a RULE that was told", x.bestRule(1, 1, 1), 9);
        due("without PERSONS", at("ship 4 4;rocks 12;").bestRule(0, 24, 0), 0);
        sentence("THE BEST RULE (what = 0), its WORTH OF A RUN (1).");
        for (int what : p(-1, 2, LOW, HIGH)) due("what " + what, x.bestRule(1, 1, what), OUTSIDE);
        due("RULES stay", x.count(0), 1);
        due("the RULE that was told bars", x.counted(0, 9, 0, 0), 0);
    }

    /** Two who like 9 press to the left there; what the others press lets only this kind, or a later one, follow. */
    static void kindsAlone() {
        String[] others = {"sort 1;", "sort 2;", "sort 3;", "sort 3;"};
        int[] presses = {-1, -2, -2, -1};
        for (int kind = 0; kind < 4; kind++) {
            NineWheel x = pressing(p(presses[kind], 0), "ship 0 4;sort 2 likes 9 5;" + others[kind]);
            due("the first of " + KINDS[kind], x.bestRule(1, 1, 0), 50 * kind);
            due("its worth", x.bestRule(1, 1, 1), 10);
        }
    }

    /** The 200 short RULES, each fed as a text. */
    static void bestRuleOf(String sea, String sorts, int[] told, int t) {
        String[] unless = {"", " unless left 1", " unless right 1", " unless left 2", " unless right 2"};
        int sets = 1 << told.length;
        int[] best = new int[sets], number = new int[sets];
        Arrays.fill(best, LOW);
        for (int first = 0; first < 200; first += 4) {
            String[] rules = new String[4];
            for (int i = 0; i < 4; i++) {
                int n = first + i;
                rules[i] = KINDS[n / 50] + " need " + n % 50 / 5 + unless[n % 5];
            }
            NineWheel x = pressing(told, sea + sorts, rules);
            for (int set = 0; set < sets; set++) {
                for (int i = 0; i < 4; i++) {
                    int value = x.value(i, set, t);
                    if (value > best[set]) number[set] = first + i;
                    best[set] = Math.max(best[set], value);
                }
            }
        }
        NineWheel x = pressing(told, sea + sorts);
        for (int set = 0; set < sets; set++) {
            due("bestRule(" + set + ", " + t + ", 0) on " + sea + sorts, x.bestRule(set, t, 0), number[set]);
            due("bestRule(" + set + ", " + t + ", 1) on " + sea + sorts, x.bestRule(set, t, 1), best[set]);
        }
    }

    // ---- voyages, images

    static void seeds() {
        sentence("THE SEED becomes v (0 .. 2147483647): what it was.");
        NineWheel x = at("sort 1;", "most");
        due("at first", x.seed(HIGH), 0);
        for (int v : p(-1, -2, LOW)) due("seed " + v, x.seed(v), OUTSIDE);
        due("the greatest", x.seed(1), HIGH);
        due("one", x.seed(0), 1);
        due("nought", x.seed(0), 0);
        sentence("each DRAW it becomes it times 1103515245 and 12345, left over by 2 to the 31");
        for (int v : p(0, 1, HIGH, HIGH - 1, 1 << 30, 65535, 65536, 1103515245)) {
            x.seed(v);
            x.voyage(0, 0, 1);
            due("one DRAW behind " + v, x.seed(0), (int) ((v * 1103515245L + 12345L) % 2147483648L));
        }
    }

    static void voyages() {
        sentence("each HOUR each PERSON in order: a DRAW of 100 below q: it presses a DRAW of 3, less 1, in place of what its SORT presses; "
            + "else that (BLIND as without draws). n HOURS, or till STRUCK.");
        for (int i = 0; i < fleet().length; i++) {
            NineWheel x = fleet()[i].made();
            for (int q : p(0, 1, 50, 99, 100)) {
                for (int n : p(1, 2, 3, 17, 98, 99)) {
                    Ship ship = fleet()[i];
                    int seed = 7 * q + n + (q == 100 ? HIGH - 1000 : 0);
                    ship.q = q;
                    ship.seed = seed;
                    x.seed(seed);
                    while (ship.hour < n && !ship.struck()) ship.step();
                    String what = "voyage(0, " + q + ", " + n + ") of " + ship.sea + ship.rule;
                    due(what, x.voyage(0, q, n), ship.cell);
                    due("THE SEED behind " + what, x.seed(0), (int) ship.seed);
                }
            }
        }
        NineWheel x = pressing(p(0, 0), "ship 27 4;" + crew(2, 9), "most");
        x.way(1, 3, 0);
        x.way(0, 4, 1);
        due("the BLIND as without draws", x.voyage(0, 0, 1), 34);
        sentence("A VOYAGE by a RULE, q (0 .. 100), n HOURS (1 .. 99): the CELL at its end.");
        x.seed(3);
        for (int q : p(-1, 101, LOW, HIGH)) due("q " + q, x.voyage(0, q, 1), OUTSIDE);
        for (int n : p(0, -1, 100, LOW, HIGH)) due("n " + n, x.voyage(0, 0, n), OUTSIDE);
        due("THE SEED of what was refused", x.seed(3), 3);
        due("without PERSONS", at("ship 0 4;", "turns").voyage(0, 100, 99), 56);
        x = at("ship 0 4;rocks 8;", "most");
        due("STRUCK at once", x.voyage(0, 100, 99), 8);
        due("no DRAW without PERSONS", x.seed(0), 0);
    }

    static void howMany() {
        sentence("How many: 0 RULES, 1 TURNS of THE LOG, 2 bytes of THE TEXT.");
        NineWheel x = at("", KINDS);
        for (int i = 0; i < 40; i++) x.log(0);
        say(x, many(300, " "));
        int[] most = {4, 40, 300};
        for (int what = 0; what < 3; what++) due("count " + what, x.count(what), most[what]);
        for (int what : p(-1, 3, LOW, HIGH)) due("count " + what, x.count(what), OUTSIDE);
    }

    /** An IMAGE's worth of things, of which n is told. */
    static void hold(NineWheel x, int n) {
        for (int s = 0; s < 6; s++) {
            if ((s + n) % 2 == 0) x.way(s, 4, (s + n) % 5 - 2);
            else x.way(s, 2, (s + n) % 4 + 1);
        }
        x.clear();
        for (int i = 0; i < 40 - n; i++) x.log(i % 7 == n ? 1 : 0);
        x.seed(1000 + n);
    }

    static void holds(String what, NineWheel x, int n) {
        for (int s = 0; s < 6; s++) {
            due(what + ": WAY of " + s, x.sort(s, 3), (s + n) % 2 == 0 ? 4 : 2);
            due(what + ": k or p of " + s, x.sort(s, 4), (s + n) % 2 == 0 ? (s + n) % 5 - 2 : (s + n) % 4 + 1);
            if ((s + n) % 2 == 0) due(what + ": presses of " + s, x.presses(s, 9, 4), (s + n) % 5 - 2);
        }
        due(what + ": THE LOG", x.count(1), 40 - n);
        for (int s = 0; s < 6; s++) x.way(s, 4, 0);
        due(what + ": the first TURN that is not straight", x.judge(0), n < 7 ? n : NONE);
        due(what + ": THE SEED", x.seed(0), 1000 + n);
    }

    static void images() {
        sentence("IMAGES 0, 1 keep WAYS, THE LOG, THE SEED.");
        NineWheel x = at("ship 56 4;" + crew(1, 1, 1, 1, 1, 1), "most");
        for (int i : p(-1, 2, 3, LOW, HIGH)) {
            due("keep " + i, x.keep(i), UNKNOWN);
            due("goBack " + i, x.goBack(i), UNKNOWN);
        }
        for (int i = 0; i < 2; i++) due("goBack to what was not kept", x.goBack(i), NOT);
        hold(x, 0);
        due("keep 1", x.keep(1), 1);
        due("goBack to the other", x.goBack(0), NOT);
        hold(x, 1);
        due("keep 0", x.keep(0), 1);
        hold(x, 2);
        due("goBack 1", x.goBack(1), 1);
        holds("IMAGE 1", x, 0);
        due("goBack 0", x.goBack(0), 1);
        holds("IMAGE 0", x, 1);
        due("goBack 1 again", x.goBack(1), 1);
        holds("IMAGE 1 again", x, 0);
        hold(x, 3);
        due("keep 1 once more", x.keep(1), 1);
        hold(x, 4);
        due("goBack 0 once more", x.goBack(0), 1);
        holds("IMAGE 0 once more", x, 1);
        due("goBack 1 once more", x.goBack(1), 1);
        holds("IMAGE 1, kept once more", x, 3);
        imagesAndTheRest();
    }

    static void imagesAndTheRest() {
        sentence("What is so becomes IMAGE i: 1. UNKNOWN, NOT: it was not kept.");
        NineWheel x = at("ship 56 4;" + crew(1, 1, 1, 1, 1, 1), "most");
        x.clear();
        due("keep, THE LOG empty", x.keep(0), 1);
        hold(x, 0);
        say(x, "mean");
        due("a RULE", x.rule(), 1);
        say(x, "lag 1; lag");
        due("goBack", x.goBack(0), 1);
        due("THE LOG is empty", x.count(1), 0);
        due("RULES are no part of it", x.count(0), 2);
        due("THE TEXT is no part of it", x.count(2), 10);
        for (int s = 0; s < 6; s++) due("SORT " + s + " is PLAIN", x.sort(s, 3) * 10 + x.sort(s, 4), 0);
        due("THE SEED", x.seed(5), 0);
        due("a FAULT", x.sea(), -13);
        due("the IMAGE stays with a FAULT", x.goBack(0), 1);
        due("THE SEED again", x.seed(5), 0);
        due("a SEA", seaOf(x, "sort 1;"), 1);
        due("the IMAGE is gone", x.goBack(0), NOT);
        due("what is refused changes nothing", x.seed(6), 5);
        due("keep on this SEA", x.keep(0), 1);
        due("goBack on this SEA", x.goBack(0), 1);
        due("THE SEED of it", x.seed(6), 6);
    }

    /** One call's answer must not hang on what was asked ahead of it. */
    static void oneBehindAnother() {
        sentence("What is refused changes nothing.");
        String sea = "ship 27 4;rocks 9,54,31;drift 2 3;lag 1;sort 2 likes 45 5,8 3;sort 3 likes 2 7 fears 1;sort 1 likes 60 9;";
        String[] rules = {"turns", "mean unless right 2", "most need 2 bar 2", "middle"};
        Call[] calls = {x -> x.counted(0, 1, 3, 5), x -> x.counted(2, 63, 7, 0), x -> x.run(0, 1), x -> x.run(1, 0), x -> x.at(3, 77, 0),
            x -> x.comes(2, 45), x -> x.judge(0), x -> x.best(7, 63, 7, 9), x -> x.course(7, 9, 5), x -> x.value(1, 7, 24), x -> x.gain(2, 5, 9),
            x -> x.gain(0, 7, 12), x -> x.pact(0, 6), x -> x.sides(0, 45, 2), x -> x.sides(1, 0, 1), x -> x.bestRule(7, 20, 0),
            x -> x.bestRule(2, 9, 1), x -> x.presses(1, 0, 0), x -> x.worth(40, 7), x -> x.voyage(0, 0, 30)};
        for (int first = 0; first < calls.length; first++) {
            for (int second = 0; second < calls.length; second++) {
                NineWheel x = at(sea, rules), y = at(sea, rules);
                x.log(0);
                y.log(0);
                x.way(0, 2, 3);
                y.way(0, 2, 3);
                calls[first].on(x);
                due("call " + second + " behind call " + first, calls[second].on(x), calls[second].on(y));
            }
        }
    }

    static void theSea() {
        newObject();
        feeding();
        longTexts();
        bounds();
        toldOnce();
        notTold();
        numbers();
        words();
        emptyTexts();
        becomesTheSea();
        ruleTexts();
        faults();
        toldOfTheSea();
        turning();
        drifting();
        worths();
        goals();
        ofASort();
    }

    static void pressesAndRuns() {
        plainAndHard();
        lookingAhead();
        blindAndTold();
        kinds();
        inTurn();
        bars();
        unless();
        hoursOfCounting();
        wholeRuns();
        lags();
        logging();
        judging();
        bestCourses();
        courses();
        values();
        gains();
        pacts();
        allSides();
        bestRules();
        seeds();
        voyages();
        howMany();
        images();
    }

    public static void main(String[] args) throws IOException {
        Path told = Path.of("../shared/DOC.md");
        if (Files.exists(told)) document = Files.readString(told).replaceAll("\\s+", " ");
        cellsThatThereAreNot();
        numbersOutOfBounds();
        notNow();
        orderOfRefusals();
        farBelow();
        numbersAndSets();
        manyCalls();
        theSea();
        pressesAndRuns();
        oneBehindAnother();
        System.out.println(sentences + " sentences, " + checked + " answers looked at, " + wrong + " are not as due");
        if (wrong != 0) System.exit(1);
    }
}
