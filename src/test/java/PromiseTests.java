/** For each promise: ordinary inputs, the edges that the document names, wrong inputs and their order. */
public final class PromiseTests {
    static final int NONE = -1, UNKNOWN = -1000001, OUTSIDE = -1000002, NOT = -1000003, FULL = -1000004;
    static final int LOW = Integer.MIN_VALUE, HIGH = Integer.MAX_VALUE;
    static int wrong = 0, checked = 0;

    static void due(int promise, String what, int got, int want) {
        checked++;
        if (got == want) return;
        wrong++;
        System.out.println("promise " + promise + ": " + what + " answered " + got + ", due is " + want);
    }

    static void say(NineWheel x, String text) {
        for (int i = 0; i < text.length(); i++) x.feed(1, text.charAt(i));
    }

    static NineWheel at(String sea) {
        NineWheel x = new NineWheel();
        say(x, sea);
        x.sea();
        return x;
    }

    static NineWheel at(String sea, String... rules) {
        NineWheel x = at(sea);
        for (String r : rules) {
            say(x, r);
            x.rule();
        }
        return x;
    }

    static String many(int n, char c) {
        return new String(new char[n]).replace('\0', c);
    }

    static void seaFault(String text, int fault, int where) {
        NineWheel x = at("ship 9 3;rocks 20;sort 2 fears 1;");
        say(x, text);
        due(3, "sea() of '" + text + "'", x.sea(), -10 - fault);
        due(5, "fault() of '" + text + "'", x.fault(), where);
        due(3, "THE TEXT behind '" + text + "'", x.count(2), 0);
        due(3, "the ship behind '" + text + "'", x.told(0) * 8 + x.told(1), 75);
        due(3, "the rocks behind '" + text + "'", x.told(7), 1);
        due(3, "the SORTS behind '" + text + "'", x.told(5), 1);
        due(3, "fears behind '" + text + "'", x.worth(19, 1), -2);
    }

    static void seaSound(String text, int sorts) {
        NineWheel x = new NineWheel();
        say(x, text);
        due(3, "sea() of '" + text + "'", x.sea(), sorts);
        due(5, "fault() of '" + text + "'", x.fault(), NONE);
    }

    static void ruleFault(String text, int fault, int where) {
        NineWheel x = new NineWheel();
        say(x, text);
        due(4, "rule() of '" + text + "'", x.rule(), -10 - fault);
        due(5, "fault() of '" + text + "'", x.fault(), where);
        due(4, "RULES behind '" + text + "'", x.count(0), 0);
        due(4, "THE TEXT behind '" + text + "'", x.count(2), 0);
    }

    static void ruleSound(String text) {
        NineWheel x = new NineWheel();
        say(x, text);
        due(4, "rule() of '" + text + "'", x.rule(), 0);
        due(5, "fault() of '" + text + "'", x.fault(), NONE);
    }

    // ---- the sea

    static void promise1() {
        NineWheel x = new NineWheel();
        int[] told = {0, 4, NONE, NONE, 0, 0, 0, 0};
        for (int i = 0; i < 8; i++) due(1, "told(" + i + ")", x.told(i), told[i]);
        for (int i = 0; i < 3; i++) due(1, "count(" + i + ")", x.count(i), 0);
        due(1, "fault()", x.fault(), NONE);
        due(1, "seed(0)", x.seed(0), 0);
        due(1, "goBack(0)", x.goBack(0), NOT);
        due(1, "sort(0, 0)", x.sort(0, 0), UNKNOWN);
        due(1, "run(0, 0)", x.run(0, 0), UNKNOWN);
        due(1, "worth(63, 0)", x.worth(63, 0), 0);
        due(1, "worth(63, 1)", x.worth(63, 1), UNKNOWN);
    }

    static void promise2() {
        NineWheel x = new NineWheel();
        due(2, "feed(0)", x.feed(0, 1), OUTSIDE);
        due(2, "feed(9)", x.feed(9, 1), OUTSIDE);
        due(2, "feed(LOW)", x.feed(LOW, 1), OUTSIDE);
        due(2, "feed(HIGH)", x.feed(HIGH, 1), OUTSIDE);
        due(2, "feed of 'lag '", x.feed(4, 0x7f7f7f7f6c616720L), 4);
        due(2, "feed of '2;'", x.feed(2, 0xffffffffffff323bL), 6);
        due(2, "sea() of 'lag 2;'", x.sea(), 0);
        due(2, "the lag", x.told(4), 2);
        for (int i = 1; i <= 37; i++) due(2, "feed(8)", x.feed(8, -1L), 8 * i);
        due(2, "feed(5) to 301", x.feed(5, 0), FULL);
        due(2, "feed(9) when nearly full", x.feed(9, 0), OUTSIDE);
        due(2, "feed(4) to 300", x.feed(4, 0), 300);
        due(2, "feed(1) to 301", x.feed(1, 0), FULL);
        due(2, "count(2)", x.count(2), 300);
        due(2, "sea() of bytes 255", x.sea(), -11);
        due(2, "its place", x.fault(), 0);
    }

    static void promise3() {
        seaSound("", 0);
        seaSound("    ", 0);
        seaSound("ship 63 7;", 0);
        seaSound("  ship63 7 ; rocks 0 , 1,2;drift 7 9;lag 0;sort 9;", 1);
        seaSound("sort 1;sort 2;sort 3;sort 4;sort 5;sort 6;", 6);
        seaSound("sort1likes3-9,04 09fears0;", 1);
        seaSound("lag 1;ship 1 2;", 0);
        seaFault("ship 64 0;", 2, 5);
        seaFault("ship -1 0;", 1, 5);
        seaFault("ship 1 8;", 2, 7);
        seaFault("ship 001 1;", 2, 5);
        seaFault("ship 1;", 1, 6);
        seaFault("ship 1 2 3;", 1, 9);
        seaFault("ship 1 2 333;", 1, 9);
        seaFault("ship 1 2", 1, 8);
        seaFault("ship 1 2  ", 1, 10);
        seaFault("ship", 1, 4);
        seaFault("ships 1 2;", 1, 0);
        seaFault("  Ship 1 2;", 1, 2);
        seaFault("ship 1 2;;", 1, 9);
        seaFault("ship 1 2;ship", 3, 9);
        seaFault("rocks 1;rocks 2;", 3, 8);
        seaFault("drift 1 1; drift 1 1;", 3, 11);
        seaFault("lag 1;lag 1;", 3, 6);
        seaFault("lag 3;", 2, 4);
        seaFault("lag 1 lag 2;", 1, 6);
        seaFault("drift 8 1;", 2, 6);
        seaFault("drift 0 0;", 2, 8);
        seaFault("drift 0 10;", 2, 8);
        seaFault("rocks ;", 1, 6);
        seaFault("rocks 1,;", 1, 8);
        seaFault("rocks 1 2;", 1, 8);
        seaFault("rocks 1,2,64;", 2, 10);
        seaFault("rocks 7, 8,07;", 4, 11);
        seaFault("sort 0;", 2, 5);
        seaFault("sort 10;", 2, 5);
        seaFault("sort;", 1, 4);
        seaFault("sort 1 likes;", 1, 12);
        seaFault("sort 1 likes 3;", 1, 14);
        seaFault("sort 1 likes 3 10;", 2, 15);
        seaFault("sort 1 likes 3 -10;", 2, 15);
        seaFault("sort 1 likes 3 -100;", 2, 15);
        seaFault("sort 1 likes 3 -;", 1, 16);
        seaFault("sort 1 likes 3 - 1;", 1, 16);
        seaFault("sort 1 likes 3 -", 1, 16);
        seaFault("sort 1 likes 3 --1;", 1, 16);
        seaFault("sort 1 likes -3 1;", 1, 13);
        seaFault("sort 1 likes 3 1,4 1,3 1;", 4, 21);
        seaFault("sort 1 likes 3 1 4 1;", 1, 17);
        seaFault("sort 1 fears 10;", 2, 13);
        seaFault("sort 1 fears -1;", 1, 13);
        seaFault("sort 1 fears 1 likes 3 1;", 1, 15);
        seaFault("sort 1 fears 1 fears 1;", 1, 15);
        seaFault("sort 1 likes 1 1 likes 2 1;", 1, 17);
        seaFault("sort 1 likesfears 1;", 1, 7);
        seaFault("sort 1;sort 2;sort 3;sort 4;sort 5;sort 6; sort 7;", 3, 43);
        seaFault("rocks 0;", 5, 8);
        seaFault("ship 9 1;rocks 8,9; ", 5, 20);
        seaFault("rocks 0;lag 3;", 2, 12);
        seaFault("3", 1, 0);
        seaFault("most", 1, 0);

        NineWheel x = at("rocks 1;sort 2;", "most");
        x.way(0, 1, 0);
        x.log(1);
        x.seed(5);
        x.keep(0);
        say(x, "?");
        due(3, "a FAULT", x.sea(), -11);
        due(3, "the WAY behind a FAULT", x.sort(0, 3), 1);
        due(3, "the IMAGE behind a FAULT", x.goBack(0), 1);
        say(x, "sort 3;");
        due(3, "another SEA", x.sea(), 1);
        due(3, "rocks are gone", x.told(7), 0);
        due(3, "all are PLAIN", x.sort(0, 3), 0);
        due(3, "IMAGES are gone", x.goBack(0), NOT);
        due(3, "RULES stay", x.count(0), 1);
        due(3, "THE LOG stays", x.count(1), 1);
        due(3, "THE SEED stays", x.seed(0), 5);
        due(3, "an empty text", x.sea(), 0);
        due(3, "SORTS are gone", x.told(5), 0);
    }

    static void promise4() {
        ruleSound("most");
        ruleSound("  middle need 54 bar 0,1,2,3,4,5 unless left 7  ");
        ruleSound("mean bar5unless right 1");
        ruleSound("turns need00");
        ruleFault("", 1, 0);
        ruleFault("   ", 1, 3);
        ruleFault("moster", 1, 0);
        ruleFault("most;", 1, 4);
        ruleFault("most most", 1, 5);
        ruleFault("mostneed 1", 1, 0);
        ruleFault("most need", 1, 9);
        ruleFault("most need -1", 1, 10);
        ruleFault("most need 55", 2, 10);
        ruleFault("most need 001", 2, 10);
        ruleFault("most need 1 2", 1, 12);
        ruleFault("most bar", 1, 8);
        ruleFault("most bar 6", 2, 9);
        ruleFault("most bar 1,", 1, 11);
        ruleFault("most bar 1,2, 01", 4, 14);
        ruleFault("most bar 1 need 1", 1, 11);
        ruleFault("most unless", 1, 11);
        ruleFault("most unless ahead 1", 1, 12);
        ruleFault("most unless left", 1, 16);
        ruleFault("most unless left 0", 2, 17);
        ruleFault("most unless right 8", 2, 18);
        ruleFault("most unless left 1 need 2", 1, 19);
        NineWheel x = new NineWheel();
        say(x, "most" + many(77, ' '));
        due(4, "81 bytes", x.rule(), NOT);
        due(4, "THE TEXT stays", x.count(2), 81);
        due(4, "no FAULT of a refusal", x.fault(), NONE);
        x.sea();
        say(x, "most" + many(76, ' '));
        due(4, "80 bytes", x.rule(), 0);
        for (int i = 1; i < 4; i++) {
            say(x, "mean");
            due(4, "another", x.rule(), i);
        }
        say(x, "?");
        due(4, "a fifth", x.rule(), FULL);
        due(4, "THE TEXT stays", x.count(2), 1);
        say(x, many(80, ' '));
        due(4, "a fifth of 81 bytes", x.rule(), NOT);
        due(4, "RULES", x.count(0), 4);
    }

    static void promise5() {
        NineWheel x = new NineWheel();
        due(5, "none yet", x.fault(), NONE);
        say(x, "lag ?");
        x.sea();
        due(5, "of a sea", x.fault(), 4);
        say(x, many(81, ' '));
        x.rule();
        due(5, "a refusal leaves it", x.fault(), 4);
        x.sea();
        due(5, "a sound text", x.fault(), NONE);
        say(x, "mean 3");
        x.rule();
        due(5, "of a rule", x.fault(), 5);
    }

    static void promise6() {
        NineWheel x = at("ship 10 6;rocks 1,2,3;drift 0 9;lag 1;sort 9;sort 4;");
        int[] told = {10, 6, 0, 9, 1, 2, 13, 3};
        for (int i = 0; i < 8; i++) due(6, "told(" + i + ")", x.told(i), told[i]);
        for (int i : new int[] {-1, 8, LOW, HIGH}) due(6, "told(" + i + ")", x.told(i), OUTSIDE);
    }

    static void promise7() {
        NineWheel x = at("ship 63 0;rocks 0,1,9;sort 3 likes 8 7,0 9 fears 2;sort 2 likes 8 -3;");
        due(7, "three rocks near 8", x.worth(8, 1), 3 * (7 - 6));
        due(7, "to the other", x.worth(8, 2), -6);
        due(7, "to both", x.worth(8, 3), -3);
        due(7, "to none", x.worth(8, 0), 0);
        due(7, "a rock", x.worth(0, 1), -297);
        due(7, "a rock to both", x.worth(9, 3), -495);
        due(7, "one rock near 16", x.worth(16, 1), -6);
        due(7, "no row's end goes round", x.worth(15, 1), 0);
        due(7, "two off", x.worth(27, 1), 0);
        due(7, "CELL 64", x.worth(64, 1), UNKNOWN);
        due(7, "CELL -1", x.worth(-1, 1), UNKNOWN);
        due(7, "SET 4", x.worth(8, 4), UNKNOWN);
        due(7, "SET -1", x.worth(8, -1), UNKNOWN);
        due(7, "SET LOW", x.worth(8, LOW), UNKNOWN);
    }

    static void promise8() {
        NineWheel x = at("ship 63 0;rocks 0;sort 3 likes 5 7,4 7,0 9 fears 2;sort 2 likes 8 -3;");
        int[] first = {3, 2, 4, 0, 0};
        for (int i = 0; i < 5; i++) due(8, "sort(0, " + i + ")", x.sort(0, i), first[i]);
        due(8, "GOAL of like ones", x.sort(1, 2), 1);
        x.way(0, 2, 3);
        x.way(1, 4, -2);
        due(8, "AHEAD", x.sort(0, 3), 2);
        due(8, "k", x.sort(0, 4), 3);
        due(8, "TOLD", x.sort(1, 3), 4);
        due(8, "p", x.sort(1, 4), -2);
        x.way(1, 3, 0);
        due(8, "of others 0", x.sort(1, 4), 0);
        due(8, "SORT 2", x.sort(2, 0), UNKNOWN);
        due(8, "SORT -1", x.sort(-1, 9), UNKNOWN);
        due(8, "what 5", x.sort(0, 5), OUTSIDE);
        due(8, "what -1", x.sort(0, -1), OUTSIDE);
    }

    static void promise9() {
        NineWheel x = new NineWheel();
        int[] round = {19, 20, 28, 36, 35, 34, 26, 18};
        for (int h = 0; h < 8; h++) {
            due(9, "straight on by " + h, x.turns(27, h, 0, 0, 0), round[h]);
            due(9, "left by " + h, x.turns(27, h, 0, -1, 0), round[(h + 7) % 8]);
            due(9, "right by " + h, x.turns(27, h, 0, 1, 0), round[(h + 1) % 8]);
            due(9, "HEADING by " + h, x.turns(27, h, 0, 1, 1), (h + 1) % 8);
        }
        due(9, "left of 0", x.turns(27, 0, 0, -1, 1), 7);
        due(9, "the edge", x.turns(7, 1, 0, 1, 0), 7);
        due(9, "no rock", x.turns(7, 1, 0, 1, 2), 0);
        x = at("ship 63 0;rocks 8,18;drift 2 3;");
        due(9, "no drift yet", x.turns(1, 4, 1, 0, 0), 9);
        due(9, "drift", x.turns(1, 4, 2, 0, 0), 10);
        due(9, "drift late", x.turns(1, 4, 998, 0, 0), 10);
        due(9, "drift turns nothing", x.turns(1, 4, 2, 0, 1), 4);
        due(9, "drift at the edge", x.turns(7, 4, 2, 0, 0), 15);
        due(9, "no drift from a rock", x.turns(0, 4, 2, 0, 0), 8);
        due(9, "on a rock", x.turns(0, 4, 2, 0, 2), 1);
        due(9, "drift to a rock", x.turns(9, 4, 2, 0, 0), 18);
        due(9, "drift to a rock is one", x.turns(9, 4, 2, 0, 2), 1);
        due(9, "CELL 64", x.turns(64, 9, 0, 0, 0), UNKNOWN);
        due(9, "CELL -1", x.turns(-1, 0, 0, 0, 0), UNKNOWN);
        due(9, "HEADING 8", x.turns(8, 8, 0, 0, 0), OUTSIDE);
        due(9, "HEADING -1", x.turns(1, -1, 0, 0, 0), OUTSIDE);
        due(9, "HOUR 1000", x.turns(1, 0, 1000, 0, 0), OUTSIDE);
        due(9, "HOUR -1", x.turns(1, 0, -1, 0, 0), OUTSIDE);
        due(9, "TURN 2", x.turns(1, 0, 0, 2, 0), OUTSIDE);
        due(9, "TURN -2", x.turns(1, 0, 0, -2, 0), OUTSIDE);
        due(9, "what 3", x.turns(1, 0, 0, 0, 3), OUTSIDE);
        due(9, "what -1", x.turns(1, 0, 0, 0, -1), OUTSIDE);
        due(9, "from a rock", x.turns(8, 0, 999, 0, 0), NOT);
    }

    // ---- pressing

    static void promise10() {
        NineWheel x = at("sort 1;");
        int[][] all = {{1, 0, 0}, {2, 1, 1}, {2, 4, 2}, {3, 0, 2}, {4, -2, 3}, {4, 2, 4}, {0, 0, 4}};
        for (int[] w : all) due(10, "way(0, " + w[0] + ", " + w[1] + ")", x.way(0, w[0], w[1]), w[2]);
        int[][] off = {{-1, 0}, {5, 0}, {0, 1}, {1, -1}, {3, 2}, {2, 0}, {2, 5}, {4, -3}, {4, 3}, {HIGH, LOW}};
        for (int[] w : off) {
            due(10, "way(0, " + w[0] + ", " + w[1] + ")", x.way(0, w[0], w[1]), OUTSIDE);
            due(10, "way(1, " + w[0] + ", " + w[1] + ")", x.way(1, w[0], w[1]), UNKNOWN);
        }
        due(10, "what is refused changes nothing", x.sort(0, 3), 0);
        due(10, "SORT -1", x.way(-1, 0, 0), UNKNOWN);
    }

    static void promise11() {
        NineWheel x = at("ship 63 0;rocks 18;sort 1 likes 45 9;sort 2 likes 9 5,10 8,2 -1;sort 1;");
        due(11, "PLAIN, like ones: straight", x.presses(0, 27, 3), 0);
        due(11, "PLAIN left", x.presses(0, 27, 4), -1);
        due(11, "PLAIN right", x.presses(0, 27, 2), 1);
        due(11, "PLAIN, a rock ahead", x.presses(0, 9, 3), -1);
        x.way(0, 1, 0);
        due(11, "HARD", x.presses(0, 27, 4), -2);
        due(11, "HARD straight", x.presses(0, 27, 3), 0);
        x.way(1, 2, 1);
        due(11, "AHEAD 1", x.presses(1, 1, 3), 0);
        due(11, "AHEAD 1, to the right", x.presses(1, 1, 2), 1);
        x.way(1, 2, 2);
        due(11, "AHEAD 2 takes both", x.presses(1, 0, 3), 0);
        for (int p = -2; p <= 2; p++) {
            x.way(2, 4, p);
            due(11, "TOLD " + p, x.presses(2, 27, 0), p);
        }
        x.way(0, 4, 2);
        x.way(1, 3, 0);
        x.way(2, 4, -2);
        due(11, "BLIND of like ones -1", x.presses(1, 27, 0), -1);
        x.way(2, 4, 0);
        due(11, "BLIND of like ones 0", x.presses(1, 27, 0), 0);
        x.way(2, 3, 0);
        due(11, "BLIND by sign", x.presses(1, 27, 0), 1);
        x.way(0, 3, 0);
        due(11, "all BLIND", x.presses(0, 27, 0), 0);
        due(11, "SORT 3", x.presses(3, 27, 0), UNKNOWN);
        due(11, "SORT -1", x.presses(-1, 27, 9), UNKNOWN);
        due(11, "CELL 64", x.presses(0, 64, 9), UNKNOWN);
        due(11, "HEADING 8 on a rock", x.presses(0, 18, 8), OUTSIDE);
        due(11, "HEADING -1", x.presses(0, 27, -1), OUTSIDE);
        due(11, "a rock", x.presses(0, 18, 0), NOT);
        x = at("sort 1 likes 8 1,10 9,19 -9,28 20;");
        due(11, "a W of 20 is no W", x.told(5), 0);
        x = at("sort 1 likes 8 1,10 4,19 -9,3 -9,11 -9,28 9,37 9;");
        int[] ahead = {0, -1, 0, -1};
        for (int k = 1; k <= 4; k++) {
            x.way(0, 2, k);
            due(11, "AHEAD " + k, x.presses(0, 0, 4), ahead[k - 1]);
        }
        x = at("ship 63 0;rocks 9;sort 1 likes 8 1,16 1,17 -9,24 9;");
        x.way(0, 2, 2);
        due(11, "AHEAD 2 of like rows the first", x.presses(0, 0, 4), 0);
        x = at("rocks 34,35,37,44,45;sort 1 likes 36 -9;");
        x.way(0, 2, 2);
        due(11, "AHEAD, STRUCK later is better than at once", x.presses(0, 27, 4), -1);
        x.way(0, 2, 1);
        due(11, "AHEAD 1, no rock at all is better", x.presses(0, 27, 4), -1);
        x = at("ship 0 3;rocks 9,8;sort 1;");
        x.way(0, 2, 1);
        due(11, "AHEAD away from rocks", x.presses(0, 0, 2), 0);
        due(11, "AHEAD by the edge", x.presses(0, 0, 4), 1);
    }

    /** Three SORTS of 2, 3 and 1 PERSONS that press as told. */
    static NineWheel pressing(int a, int b, int c, String... rules) {
        NineWheel x = at("ship 27 4;rocks 59;sort 2;sort 3;sort 1;", rules);
        x.way(0, 4, a);
        x.way(1, 4, b);
        x.way(2, 4, c);
        return x;
    }

    static void counted(String rule, int a, int b, int c, int hour, int want) {
        NineWheel x = pressing(a, b, c, rule);
        due(12, rule + " of " + a + " " + b + " " + c + " in " + hour, x.counted(0, 27, 2, hour), want);
    }

    static void promise12() {
        counted("most", 1, 0, 1, 0, 0);
        counted("most", -1, 1, -2, 0, -1);
        counted("most", 1, -2, 0, 0, -1);
        counted("most", 0, 1, -1, 0, 1);
        counted("middle", -1, 1, 1, 0, 1);
        counted("middle", -1, 1, -1, 0, -1);
        counted("middle", -2, 0, 2, 0, 0);
        counted("middle", 0, 2, 2, 0, 1);
        counted("mean", 0, 1, 0, 0, 1);
        counted("mean", 1, 0, 0, 0, 0);
        counted("mean", 0, -1, 0, 0, -1);
        counted("mean", 1, -1, 1, 0, 0);
        counted("mean", 2, -2, 2, 0, 0);
        counted("mean", 0, 0, -2, 0, 0);
        counted("mean", -2, 0, 1, 0, -1);
        counted("turns", 2, 0, -1, 1, 1);
        counted("turns", 2, 0, -1, 2, 0);
        counted("turns", 2, 0, -1, 5, -1);
        counted("turns", 2, 0, -1, 6, 1);
        counted("turns", 2, 0, -1, 999, 0);
        counted("most need 3", -1, 1, 0, 0, 1);
        counted("most need 4", -1, 1, 0, 0, 0);
        counted("turns need 2", 1, 0, 0, 0, 1);
        counted("turns need 3", 1, 0, 0, 0, 0);
        counted("most bar 0", -1, 1, 0, 0, 0);
        counted("most bar 2", -1, 1, 0, 0, 1);
        counted("most bar 0", 0, 1, -1, 0, 1);
        counted("most bar 1,2", -1, 1, -1, 0, 0);
        counted("most bar 5", -1, 1, -1, 0, -1);
        NineWheel x = pressing(1, 1, 1, "most unless left 3", "most unless left 4", "mean need 54 unless right 1");
        due(12, "no rock so near", x.counted(0, 27, 4, 0), 1);
        due(12, "a rock ahead", x.counted(1, 27, 4, 0), -1);
        due(12, "a rock by another HEADING", x.counted(1, 27, 3, 0), 1);
        due(12, "unless, whatever is needed", x.counted(2, 51, 4, 0), 1);
        due(12, "RULE 3", x.counted(3, 27, 4, 0), UNKNOWN);
        due(12, "RULE -1", x.counted(-1, 27, 9, 0), UNKNOWN);
        due(12, "CELL 64", x.counted(0, 64, 9, 0), UNKNOWN);
        due(12, "HEADING 8 on a rock", x.counted(0, 59, 8, 0), OUTSIDE);
        due(12, "HOUR 1000", x.counted(0, 27, 0, 1000), OUTSIDE);
        due(12, "HOUR -1", x.counted(0, 27, 0, -1), OUTSIDE);
        due(12, "a rock", x.counted(0, 59, 0, 0), NOT);
        x = at("rocks 56;", "most unless right 6", "most unless right 7");
        due(12, "unless, six CELLS", x.counted(0, 0, 4, 0), 0);
        due(12, "unless, seven CELLS", x.counted(1, 0, 4, 0), 1);
        due(12, "unless by the edge", x.counted(1, 0, 6, 0), 0);
        x = at("rocks 16;", "most", "middle", "mean unless left 2", "turns");
        for (int r = 0; r < 4; r++) due(12, "without PERSONS", x.counted(r, 0, 4, 5), r == 2 ? -1 : 0);
    }

    // ---- runs

    /** One SORT of two PERSONS that presses straight on; a rock three CELLS ahead. */
    static NineWheel striking(String... rules) {
        NineWheel x = at("rocks 24;sort 2;", rules);
        x.way(0, 4, 0);
        return x;
    }

    static void promise13() {
        NineWheel x = striking("most", "most unless left 1");
        due(13, "STRUCK", x.run(0, 0), 3);
        due(13, "ROUND of one STRUCK", x.run(0, 1), NONE);
        due(13, "between of one STRUCK", x.run(0, 2), NONE);
        due(13, "not STRUCK", x.run(1, 0), NONE);
        due(13, "RULE 2", x.run(2, 3), UNKNOWN);
        due(13, "RULE -1", x.run(-1, 0), UNKNOWN);
        due(13, "what 3", x.run(0, 3), OUTSIDE);
        due(13, "what -1", x.run(0, -1), OUTSIDE);
        x = at("ship 27 4;sort 1;", "most");
        x.way(0, 4, 1);
        due(13, "a ring: ROUND", x.run(0, 1), 8);
        due(13, "a ring: between", x.run(0, 2), 8);
        x = at("ship 0 4;sort 3;", "most");
        x.way(0, 4, 0);
        due(13, "PERIOD of three PERSONS: ROUND", x.run(0, 1), 10);
        due(13, "PERIOD of three PERSONS: between", x.run(0, 2), 3);
        x = at("ship 0 4;drift 4 5;sort 3;", "most");
        x.way(0, 4, 0);
        due(13, "PERIOD with drift: between", x.run(0, 2), 15);
        due(13, "PERIOD with drift: ROUND", x.run(0, 1), 21);
        x = at("ship 0 4;drift 4 9;sort 9;sort 9;sort 9;sort 9;sort 9;", "most");
        due(13, "PERIOD 405: not to 400", x.run(0, 1), NONE);
        due(13, "PERIOD 405: between", x.run(0, 2), NONE);
        x = at("ship 0 4;drift 4 8;sort 9;sort 9;sort 9;sort 9;sort 9;sort 4;", "most");
        for (int s = 0; s < 6; s++) x.way(s, 4, 0);
        due(13, "PERIOD 392", x.run(0, 1), 399);
        due(13, "PERIOD 392: between", x.run(0, 2), 392);
        x = at("ship 0 4;lag 2;", "most");
        due(13, "lag without PERSONS", x.run(0, 1), 8);
        // The ring of eight begins when the first late TURN is done.
        x = at("ship 27 4;lag 2;sort 1;", "most");
        x.way(0, 4, 1);
        due(13, "lag: ROUND", x.run(0, 1), 10);
        due(13, "lag: between", x.run(0, 2), 8);
    }

    static void lagged(int lag, int p, String rule, int[] headings) {
        NineWheel x = at("ship 0 4;rocks 24;lag " + lag + ";sort 1;", rule);
        x.way(0, 4, p);
        for (int t = 0; t < headings.length; t++) {
            due(14, "lag " + lag + ", " + rule + ": HEADING at " + t, x.at(0, t, 1), headings[t]);
        }
    }

    static void promise14() {
        NineWheel x = striking("most");
        for (int t = 0; t <= 3; t++) due(14, "CELL at " + t, x.at(0, t, 0), 8 * t);
        due(14, "HEADING as she strikes", x.at(0, 3, 1), 4);
        due(14, "behind that", x.at(0, 4, 0), NONE);
        due(14, "far behind that", x.at(0, 400, 1), NONE);
        due(14, "HOUR 401", x.at(0, 401, 0), OUTSIDE);
        due(14, "HOUR -1", x.at(0, -1, 0), OUTSIDE);
        due(14, "what 2", x.at(0, 0, 2), OUTSIDE);
        due(14, "what -1", x.at(0, 0, -1), OUTSIDE);
        due(14, "RULE 1", x.at(1, 401, 2), UNKNOWN);
        lagged(0, 1, "most", new int[] {4, 5, 6, 7, 0, 1, 2});
        lagged(1, -1, "most", new int[] {4, 4, 3, 2, 1, 0});
        lagged(2, -1, "most", new int[] {4, 4, 4, 3, 2, 1});
        // In HOUR 1 'unless' turns, what was to be done then is lost, and 0 is done a lag later.
        lagged(1, 1, "most unless left 2", new int[] {4, 4, 3, 3, 4});
        lagged(2, 1, "most unless left 2", new int[] {4, 4, 3, 4, 4, 5});
        x = at("ship 63 0;", "most");
        due(14, "at 400", x.at(0, 400, 0), 7);
    }

    static void promise15() {
        NineWheel x = striking("most");
        due(15, "at once", x.comes(0, 0), 0);
        due(15, "a CELL", x.comes(0, 16), 2);
        due(15, "as she is STRUCK", x.comes(0, 24), 3);
        due(15, "never", x.comes(0, 32), NONE);
        due(15, "CELL 64", x.comes(0, 64), UNKNOWN);
        due(15, "CELL -1", x.comes(0, -1), UNKNOWN);
        due(15, "RULE 1", x.comes(1, 0), UNKNOWN);
    }

    static void promise16() {
        NineWheel x = new NineWheel();
        due(16, "TURN 2", x.log(2), OUTSIDE);
        due(16, "TURN -2", x.log(-2), OUTSIDE);
        for (int i = 1; i <= 40; i++) due(16, "TURN " + i, x.log(i % 3 - 1), i);
        due(16, "a 41st", x.log(0), FULL);
        due(16, "a 41st, wrong", x.log(HIGH), OUTSIDE);
        due(17, "clear()", x.clear(), 40);
        due(17, "clear() again", x.clear(), 0);
        due(17, "log behind it", x.log(1), 1);
        due(28, "count(1)", x.count(1), 1);
    }

    static void promise18() {
        NineWheel x = striking("most", "most unless right 1");
        due(18, "an empty LOG", x.judge(0), NONE);
        for (int i = 0; i < 3; i++) x.log(0);
        due(18, "all alike", x.judge(0), NONE);
        due(18, "unless turned", x.judge(1), 2);
        x.log(0);
        due(18, "behind the strike", x.judge(0), 3);
        x.log(1);
        due(18, "behind the strike still", x.judge(0), 3);
        x.clear();
        x.log(-1);
        due(18, "at once", x.judge(0), 0);
        due(18, "RULE 2", x.judge(2), UNKNOWN);
        due(18, "RULE -1", x.judge(-1), UNKNOWN);
        x = at("ship 27 4;lag 1;sort 1;", "most");
        x.way(0, 4, 1);
        x.log(0);
        x.log(1);
        due(18, "TURNS that are done", x.judge(0), NONE);
    }

    // ---- best courses, gains

    static void promise19() {
        NineWheel x = at("ship 0 4;rocks 2;lag 2;sort 2 likes 9 5,8 1;sort 1 likes 8 9;");
        due(19, "to one", x.best(1, 0, 4, 1), 10);
        due(19, "to the other", x.best(2, 0, 4, 1), 9);
        due(19, "to both", x.best(3, 0, 4, 1), 11);
        due(19, "to none", x.best(0, 0, 4, 24), 0);
        due(19, "she stays at the edge", x.best(2, 8, 6, 24), 9 * 24);
        due(19, "SET 4", x.best(4, 2, 8, 0), UNKNOWN);
        due(19, "SET -1", x.best(-1, 0, 0, 1), UNKNOWN);
        due(19, "CELL 64", x.best(1, 64, 8, 0), UNKNOWN);
        due(19, "HEADING 8", x.best(1, 2, 8, 1), OUTSIDE);
        due(19, "T 0", x.best(1, 2, 0, 0), OUTSIDE);
        due(19, "T 25", x.best(1, 2, 0, 25), OUTSIDE);
        due(19, "a rock", x.best(1, 2, 0, 1), NOT);
        x = at("ship 0 4;rocks 8,9,1;sort 3;");
        due(19, "rocks on all sides but the edge", x.best(1, 0, 3, 4), -3 * 99 * 4);
        due(19, "by the edge", x.best(1, 0, 4, 4), 0);
        x = at("ship 0 4;rocks 9;drift 2 1;sort 1 likes 1 4;");
        due(19, "drift", x.best(1, 0, 4, 1), 4);
    }

    static void promise20() {
        NineWheel x = at("ship 0 4;sort 2 likes 9 5,8 1;sort 1 likes 8 9;");
        due(20, "left", x.course(1, 1, 0), -1);
        due(20, "straight", x.course(3, 1, 0), 0);
        due(20, "of like ones 0", x.course(0, 24, 23), 0);
        due(20, "beyond T", x.course(1, 1, 1), 9);
        due(20, "far beyond T", x.course(1, 24, HIGH), 9);
        due(20, "TURN -1", x.course(1, 1, -1), 9);
        due(20, "TURN -1 of a long course", x.course(3, 24, -1), 9);
        due(20, "TURN -24", x.course(1, 24, -24), 9);
        due(20, "far below TURN 0", x.course(1, 24, LOW), 9);
        due(20, "TURN -1, T 0", x.course(1, 0, -1), OUTSIDE);
        due(20, "TURN -1, T 25", x.course(1, 25, -1), OUTSIDE);
        due(20, "TURN -1, SET 4", x.course(4, 1, -1), UNKNOWN);
        due(20, "TURN -1, SET -1", x.course(-1, 1, -1), UNKNOWN);
        due(20, "far beyond T, T 25", x.course(1, 25, HIGH), OUTSIDE);
        due(20, "TURN -1, an empty SET without PERSONS", new NineWheel().course(0, 1, -1), 9);
        due(20, "T 0", x.course(1, 0, 0), OUTSIDE);
        due(20, "T 25", x.course(1, 25, 0), OUTSIDE);
        due(20, "SET 4", x.course(4, 0, 0), UNKNOWN);
        x = at("ship 0 3;rocks 8,9,1;sort 3;");
        due(20, "all alike STRUCK", x.course(1, 4, 0), 0);
        due(20, "behind the strike", x.course(1, 4, 1), 9);
        x = at("ship 0 4;rocks 8;sort 1;");
        due(20, "of like ones -1 ahead of 1", x.course(1, 1, 0), -1);
        x = at("ship 0 4;rocks 8,9;sort 1;");
        due(20, "right alone", x.course(1, 1, 0), 1);
        x = at("ship 0 4;sort 1 likes 57 9;");
        due(20, "the first of like rows", x.course(1, 7, 0), 0);
        due(20, "the last but one", x.course(1, 7, 5), 0);
        due(20, "at last left", x.course(1, 7, 6), -1);
    }

    static void promise21() {
        NineWheel x = striking("most", "most unless left 1");
        due(21, "STRUCK and each HOUR more", x.value(0, 1, 5), -2 * 99 * 3);
        due(21, "ahead of it", x.value(0, 1, 2), 0);
        due(21, "to none", x.value(0, 0, 24), 0);
        due(21, "24 HOURS", x.value(0, 1, 24), -2 * 99 * 22);
        due(21, "T 0", x.value(0, 1, 0), OUTSIDE);
        due(21, "T 25", x.value(0, 1, 25), OUTSIDE);
        due(21, "RULE 2", x.value(2, 1, 0), UNKNOWN);
        due(21, "SET 2", x.value(0, 2, 0), UNKNOWN);
        x = at("ship 27 4;lag 1;sort 1 likes 27 9,35 1,43 3,42 5;", "most");
        x.way(0, 4, 1);
        due(21, "with lag", x.value(0, 1, 2), 6);
        due(21, "not where she was at first", x.value(0, 1, 1), 1);
    }

    static void promise22() {
        NineWheel x = at("ship 0 4;lag 2;sort 1 likes 9 5;sort 2 likes 8 5;sort 4 likes 0 1;", "most", "most need 3", "mean");
        x.way(0, 4, 1);
        x.way(1, 4, 1);
        x.way(2, 3, 0);
        due(22, "one of three", x.gain(0, 1, 1), 0);
        due(22, "two of three, and the BLIND go with them", x.gain(0, 2, 1), 10);
        due(22, "both", x.gain(0, 3, 1), 10);
        due(22, "of none", x.gain(0, 0, 1), 0);
        due(22, "the BLIND, free, outvote all", x.gain(0, 4, 1), 0);
        x.way(2, 4, 0);
        due(22, "most: straight on already", x.gain(0, 2, 1), 0);
        due(22, "too few are needed", x.gain(1, 1, 1), 0);
        due(22, "T 0", x.gain(0, 1, 0), OUTSIDE);
        due(22, "T 25", x.gain(0, 1, 25), OUTSIDE);
        due(22, "RULE 3", x.gain(3, 0, 0), UNKNOWN);
        due(22, "SET 8", x.gain(0, 8, 0), UNKNOWN);
        x = at("ship 0 4;sort 1 likes 9 5;sort 1;", "mean");
        x.way(0, 4, 0);
        x.way(1, 4, 1);
        due(22, "the mean, pressing hard", x.gain(0, 1, 1), 5);
        // Free, the first one is seen by the BLIND, too; else these see the second alone.
        x = at("ship 0 4;sort 2 likes 9 5;sort 1;sort 2;", "most");
        x.way(0, 3, 0);
        x.way(1, 4, 1);
        x.way(2, 3, 0);
        due(22, "those of the SET are not BLIND", x.gain(0, 1, 1), 10);
        x = at("ship 0 4;sort 2 likes 9 5;sort 1;sort 2;", "most need 4");
        x.way(0, 3, 0);
        x.way(1, 4, 1);
        x.way(2, 3, 0);
        due(22, "and the BLIND follow them", x.gain(0, 1, 1), 10);
        x = at("ship 0 4;rocks 16;sort 1 likes 8 9;", "most unless left 2");
        due(22, "unless holds for all", x.gain(0, 1, 1), 0);
        asOne();
    }

    /** Straight on, toward 36, comes of one SORT's left and the other's right alone; a SET presses all of it alike. */
    static NineWheel straightByBothSides() {
        NineWheel x = at("ship 28 4;sort 1 likes 36 9;sort 1;sort 5;sort 4;", "most bar0");
        x.way(2, 4, 1);
        x.way(3, 4, -1);
        return x;
    }

    static void asOne() {
        NineWheel x = straightByBothSides();
        due(22, "not one left, the other right", x.gain(0, 3, 1), 0);
        due(22, "enough of the SET straight", x.gain(0, 5, 1), 9);
        due(22, "one alone, the other PLAIN", x.gain(0, 1, 1), 0);
        x.way(1, 4, 1);
        due(22, "one alone, the other by its WAY to the right", x.gain(0, 1, 1), 9);
        due(22, "both, though their WAYS are otherwise", x.gain(0, 3, 1), 0);
        x.way(0, 4, -1);
        due(22, "one alone has it already", x.gain(0, 1, 1), 0);
        due(22, "alike is worse than each by its WAY", x.gain(0, 3, 1), -9);
        due(22, "to those without likes it is all one", x.gain(0, 14, 1), 0);
        x = at("ship 0 4;sort 1 likes 9 5;sort 1;sort 6;", "mean");
        x.way(2, 4, 0);
        due(22, "the mean, all of two pressing hard", x.gain(0, 3, 1), 5);
        x = at("ship 27 4;sort 1 likes 36 9,44 7;sort 1;", "turns");
        x.way(0, 4, 0);
        x.way(1, 4, 0);
        due(22, "alike in an HOUR, otherwise in the next", x.gain(0, 3, 2), 16);
        due(22, "one alone in its turn", x.gain(0, 1, 2), 9);
    }

    static void promise23() {
        NineWheel x = at("ship 0 4;sort 1 likes 9 5;sort 1 likes 9 5;sort 1 likes 9 5;", "most");
        for (int s = 0; s < 3; s++) x.way(s, 4, 1);
        due(23, "two of three", x.pact(0, 1), 3);
        x = at("ship 0 4;sort 1 likes 9 -9;sort 1 likes 9 5;sort 1 likes 9 5;", "most");
        for (int s = 0; s < 3; s++) x.way(s, 4, 1);
        due(23, "the last two", x.pact(0, 1), 6);
        due(23, "T 0", x.pact(0, 0), OUTSIDE);
        due(23, "T 13", x.pact(0, 13), OUTSIDE);
        due(23, "RULE 1", x.pact(1, 0), UNKNOWN);
        x = at("ship 0 4;sort 1 likes 9 5;sort 1 likes 9 5;", "mean");
        x.way(0, 4, 0);
        x.way(1, 4, 0);
        due(23, "each gains alone what both gain", x.gain(0, 1, 1) + x.gain(0, 2, 1), x.gain(0, 3, 1));
        due(23, "no more together", x.pact(0, 1), NONE);
        x = straightByBothSides();
        due(23, "not the two that would have to press otherwise than one another", x.pact(0, 1), 5);
        due(23, "one SORT", at("sort 1 likes 9 5;", "most").pact(0, 12), NONE);
        due(23, "without SORTS", at("", "most").pact(0, 12), NONE);
    }

    static void promise24() {
        NineWheel x = at("rocks 63;", "most", "most unless left 1");
        // Straight on: the rock is struck from the CELLS of its row, column and slant behind it.
        due(24, "STRUCK", x.sides(0, 0, 0), 21);
        due(24, "ROUND", x.sides(0, 0, 1), 63 * 8 - 21);
        due(24, "come to the rock", x.sides(0, 63, 2), 21);
        due(24, "unless: none is STRUCK", x.sides(1, 0, 0), 0);
        due(24, "come to a corner", at("", "most").sides(0, 0, 2), 8 + 3 * 7);
        due(24, "RULE 2", x.sides(2, 0, 3), UNKNOWN);
        due(24, "CELL 64", x.sides(0, 64, 3), UNKNOWN);
        due(24, "what 3", x.sides(0, 63, 3), OUTSIDE);
        due(24, "what -1", x.sides(0, 63, -1), OUTSIDE);
    }

    static void promise25() {
        NineWheel x = at("ship 0 4;rocks 8;sort 2 likes 9 5;");
        x.way(0, 4, 0);
        due(25, "most, left 1", x.bestRule(1, 1, 0), 1);
        due(25, "its worth, less fear", x.bestRule(1, 1, 1), 10);
        x = at("ship 0 4;sort 1 likes 8 5;sort 2;");
        x.way(0, 4, 0);
        x.way(1, 4, 1);
        due(25, "needs three", x.bestRule(1, 1, 0), 15);
        due(25, "its worth", x.bestRule(1, 1, 1), 5);
        x = at("ship 0 4;sort 2 likes 9 5;sort 3;");
        x.way(0, 4, -1);
        x.way(1, 4, 0);
        due(25, "turns", x.bestRule(1, 1, 0), 150);
        x = at("ship 0 4;sort 2 likes 9 5;sort 2;");
        x.way(0, 4, -2);
        x.way(1, 4, 0);
        due(25, "middle", x.bestRule(1, 1, 0), 50);
        x = at("ship 0 4;sort 2 likes 9 5;sort 3;");
        x.way(0, 4, -2);
        x.way(1, 4, 0);
        due(25, "mean", x.bestRule(1, 1, 0), 100);
        x = at("ship 0 4;rocks 16;sort 1 likes 9 5;");
        x.way(0, 4, 0);
        due(25, "left 2", x.bestRule(1, 1, 0), 3);
        x = at("ship 4 4;rocks 20;sort 1 likes 11 5;");
        x.way(0, 4, 0);
        due(25, "right 2", x.bestRule(1, 1, 0), 4);
        due(25, "of like ones the first", x.bestRule(0, 24, 0), 0);
        due(25, "T 0", x.bestRule(1, 0, 0), OUTSIDE);
        due(25, "T 25", x.bestRule(1, 25, 0), OUTSIDE);
        due(25, "what 2", x.bestRule(1, 1, 2), OUTSIDE);
        due(25, "what -1", x.bestRule(1, 1, -1), OUTSIDE);
        due(25, "SET 2", x.bestRule(2, 0, 2), UNKNOWN);
        due(25, "RULES are as they were", x.count(0), 0);
    }

    // ---- voyages, images

    static void promise26() {
        NineWheel x = new NineWheel();
        due(26, "seed(HIGH)", x.seed(HIGH), 0);
        due(26, "seed(-1)", x.seed(-1), OUTSIDE);
        due(26, "seed(LOW)", x.seed(LOW), OUTSIDE);
        due(26, "seed(0)", x.seed(0), HIGH);
    }

    static void promise27() {
        NineWheel x = at("ship 27 4;sort 1;", "most");
        x.way(0, 4, 0);
        due(27, "no draw is below 0", x.voyage(0, 0, 1), 35);
        due(27, "but it is drawn", x.seed(0), 12345);
        // The DRAWS of THE SEED 0 are 0, 21468, 9988, 22117 ..: 0 of 100, 0 of 3: left; 88 of 100.
        due(27, "drawn left", x.voyage(0, 1, 1), 36);
        x.seed(0);
        due(27, "left, then straight on", x.voyage(0, 88, 2), 45);
        x.seed(0);
        due(27, "left, then drawn: 1 of 3, straight on", x.voyage(0, 89, 2), 45);
        due(27, "four draws", seedOf(x) == seedBehind(4) ? 1 : 0, 1);
        x = at("rocks 16;lag 2;sort 2;", "most", "most unless left 1");
        x.way(0, 4, 0);
        due(27, "till STRUCK", x.voyage(0, 0, 99), 16);
        due(27, "draws of two HOURS, two PERSONS", seedOf(x) == seedBehind(4) ? 1 : 0, 1);
        x.seed(0);
        due(27, "unless", x.voyage(1, 0, 2), 17);
        due(27, "draws with unless, too", seedOf(x) == seedBehind(4) ? 1 : 0, 1);
        x.seed(7);
        due(27, "q -1", x.voyage(0, -1, 1), OUTSIDE);
        due(27, "q 101", x.voyage(0, 101, 1), OUTSIDE);
        due(27, "n 0", x.voyage(0, 0, 0), OUTSIDE);
        due(27, "n 100", x.voyage(0, 0, 100), OUTSIDE);
        due(27, "RULE 2", x.voyage(2, -1, 0), UNKNOWN);
        due(27, "RULE -1", x.voyage(-1, 0, 1), UNKNOWN);
        due(27, "THE SEED is as it was", x.seed(0), 7);
        due(27, "without PERSONS", at("ship 27 4;", "turns").voyage(0, 100, 3), 51);
    }

    static int seedOf(NineWheel x) {
        return x.seed(0);
    }

    /** THE SEED behind so many DRAWS from 0. */
    static int seedBehind(int draws) {
        long seed = 0;
        for (int i = 0; i < draws; i++) seed = (seed * 1103515245L + 12345L) % 2147483648L;
        return (int) seed;
    }

    static void promise28() {
        NineWheel x = at("sort 1;", "most", "mean");
        x.log(0);
        x.feed(3, 0);
        int[] all = {2, 1, 3};
        for (int i = 0; i < 3; i++) due(28, "count(" + i + ")", x.count(i), all[i]);
        for (int i : new int[] {-1, 3, LOW, HIGH}) due(28, "count(" + i + ")", x.count(i), OUTSIDE);
    }

    static void promise29() {
        NineWheel x = at("sort 1;sort 2;", "most");
        for (int i : new int[] {-1, 2, LOW, HIGH}) {
            due(29, "keep(" + i + ")", x.keep(i), UNKNOWN);
            due(30, "goBack(" + i + ")", x.goBack(i), UNKNOWN);
        }
        due(30, "not kept", x.goBack(1), NOT);
        x.way(0, 4, 2);
        x.log(1);
        x.seed(9);
        due(29, "keep(1)", x.keep(1), 1);
        due(30, "the other is not kept", x.goBack(0), NOT);
        x.way(0, 3, 0);
        x.way(1, 2, 4);
        x.log(-1);
        x.seed(10);
        say(x, "mean");
        x.rule();
        x.feed(2, 0);
        due(29, "keep(0)", x.keep(0), 1);
        due(30, "BLIND ahead of goBack", x.presses(0, 9, 0), 0);
        due(30, "goBack(1)", x.goBack(1), 1);
        due(30, "the WAY", x.sort(0, 3), 4);
        due(30, "p of it", x.sort(0, 4), 2);
        due(30, "the other WAY", x.sort(1, 3), 0);
        due(30, "what is pressed", x.presses(0, 9, 0), 2);
        due(30, "THE LOG", x.count(1), 1);
        due(30, "THE SEED", x.seed(11), 9);
        due(30, "RULES stay", x.count(0), 2);
        due(30, "THE TEXT stays", x.count(2), 2);
        x.clear();
        x.log(0);
        due(30, "goBack(1) again", x.goBack(1), 1);
        due(30, "THE SEED again", x.seed(12), 9);
        x.way(1, 4, 1);
        due(30, "THE LOG again, a TURN to the right", x.judge(0), NONE);
        due(30, "goBack(0)", x.goBack(0), 1);
        due(30, "BLIND", x.sort(0, 3), 3);
        due(30, "k", x.sort(1, 4), 4);
        due(30, "THE LOG of it", x.count(1), 2);
        due(30, "THE SEED of it", x.seed(0), 10);
    }

    static void everythingWithWrongNumbers() {
        int[] odd = {LOW, -2, -1, 0, 1, 2, 3, 63, 64, 1000, HIGH};
        for (int a : odd) {
            for (int b : odd) {
                NineWheel x = at("ship 5 4;rocks 0,62;sort 1 likes 5 5;sort 2;", "most", "turns");
                x.worth(a, b);
                x.sort(a, b);
                x.turns(a, b, 0, 0, 0);
                x.turns(1, 1, a, b, 0);
                x.way(a, b, 1);
                x.way(a, 4, b);
                x.presses(0, a, b);
                x.counted(a, b, 0, 1);
                x.counted(0, 0, a, b);
                x.run(a, b);
                x.at(a, b, 0);
                x.at(0, a, b);
                x.comes(a, b);
                x.judge(a);
                x.best(a, b, 0, 1);
                x.best(1, 1, a, b);
                x.course(a, b, 0);
                x.course(1, a, b);
                x.value(a, b, 1);
                x.gain(a, b, 1);
                x.gain(0, a, b);
                x.pact(a, b);
                x.sides(a, b, 0);
                x.bestRule(a, b, 0);
                x.voyage(a, b, 1);
                x.voyage(0, a, b);
                x.keep(a);
                x.goBack(b);
                x.feed(a, b);
            }
        }
    }

    public static void main(String[] args) {
        promise1();
        promise2();
        promise3();
        promise4();
        promise5();
        promise6();
        promise7();
        promise8();
        promise9();
        promise10();
        promise11();
        promise12();
        promise13();
        promise14();
        promise15();
        promise16();
        promise18();
        promise19();
        promise20();
        promise21();
        promise22();
        promise23();
        promise24();
        promise25();
        promise26();
        promise27();
        promise28();
        promise29();
        everythingWithWrongNumbers();
        System.out.println(checked + " answers looked at, " + wrong + " are not as due");
        if (wrong != 0) System.exit(1);
    }
}
