import java.util.ArrayDeque;
import java.util.ArrayList;
import java.util.Arrays;
import java.util.HashMap;
import java.util.HashSet;
import java.util.List;
import java.util.Map;
import java.util.Random;
import java.util.Set;

/**
 * Long runs of drawn calls, each answer compared with that of a plain model of the document: slow,
 * without tables, every press of every PERSON in a list, every row of TURNS gone through.
 */
public final class PlainModelRuns {
    static final int UNKNOWN = -1000001, OUTSIDE = -1000002, NOT = -1000003, FULL = -1000004;
    static int wrong = 0, calls = 0;

    /** A FAULT found in a text. */
    static final class Fault extends RuntimeException {
        final int kind, where;

        Fault(int kind, int where) {
            super(null, null, false, false);
            this.kind = kind;
            this.where = where;
        }
    }

    static final class Token {
        final char kind; // w word, n number, e end, else the byte itself
        final String text;
        final int start;

        Token(char kind, String text, int start) {
            this.kind = kind;
            this.text = text;
            this.start = start;
        }
    }

    static final class Tokens {
        final List<Token> all = new ArrayList<>();
        int next = 0;

        Tokens(String text) {
            int i = 0;
            while (i < text.length()) {
                int j = i;
                char c = text.charAt(i);
                if (c == ' ') {
                    i++;
                    continue;
                }
                if (letter(c)) {
                    while (j < text.length() && letter(text.charAt(j))) j++;
                    all.add(new Token('w', text.substring(i, j), i));
                } else if (figure(c)) {
                    while (j < text.length() && figure(text.charAt(j))) j++;
                    all.add(new Token('n', text.substring(i, j), i));
                } else {
                    j = i + 1;
                    all.add(new Token(c == 'w' || c == 'n' || c == 'e' ? '?' : c, text.substring(i, j), i));
                }
                i = j;
            }
            all.add(new Token('e', "", text.length()));
        }

        static boolean letter(char c) {
            return c >= 'a' && c <= 'z';
        }

        static boolean figure(char c) {
            return c >= '0' && c <= '9';
        }

        Token peek() {
            return all.get(next);
        }

        boolean word(String w) {
            if (peek().kind != 'w' || !peek().text.equals(w)) return false;
            next++;
            return true;
        }

        boolean sign(char c) {
            if (peek().kind != c) return false;
            next++;
            return true;
        }

        void need(boolean found) {
            if (!found) throw new Fault(1, peek().start);
        }

        int number(int least, int most) {
            Token first = peek();
            boolean minus = least < 0 && sign('-');
            Token t = peek();
            if (minus && (t.kind != 'n' || t.start != first.start + 1)) throw new Fault(1, first.start + 1);
            need(t.kind == 'n');
            next++;
            if (t.text.length() > 2) throw new Fault(2, first.start);
            int v = Integer.parseInt((minus ? "-" : "") + t.text);
            if (v < least || v > most) throw new Fault(2, first.start);
            return v;
        }

        int lastStart() {
            return all.get(next - 1).start;
        }
    }

    static final class Sort {
        int persons, fear, way, strength;
        int[] w = new int[64];
    }

    static final class PlainRule {
        String kind;
        int need;
        Set<Integer> bars = new HashSet<>();
        int side, look;
    }

    static final class Image {
        int[] ways, strengths;
        List<Integer> log;
        long seed;
    }

    static final class Model {
        StringBuilder text = new StringBuilder();
        int fault = -1;
        int ship = 0, heading = 4, driftHeading = -1, driftEvery = -1, lag = 0;
        Set<Integer> rocks = new HashSet<>();
        List<Sort> sorts = new ArrayList<>();
        List<PlainRule> rules = new ArrayList<>();
        List<Integer> log = new ArrayList<>();
        long seed = 0;
        Image[] images = new Image[2];

        // ---- texts

        int feed(int n, long bytes) {
            if (n < 1 || n > 8) return OUTSIDE;
            if (text.length() + n > 300) return FULL;
            for (int i = 8 - n; i < 8; i++) text.append((char) (bytes >> (56 - 8 * i) & 0xff));
            return text.length();
        }

        int sea() {
            String t = text.toString();
            text.setLength(0);
            Model fresh = new Model();
            try {
                fresh.readSea(t);
            } catch (Fault f) {
                fault = f.where;
                return -10 - f.kind;
            }
            fault = -1;
            ship = fresh.ship;
            heading = fresh.heading;
            driftHeading = fresh.driftHeading;
            driftEvery = fresh.driftEvery;
            lag = fresh.lag;
            rocks = fresh.rocks;
            sorts = fresh.sorts;
            images = new Image[2];
            return sorts.size();
        }

        void readSea(String t) {
            Tokens in = new Tokens(t);
            Set<String> told = new HashSet<>();
            while (in.peek().kind != 'e') {
                Token clause = in.peek();
                if (in.word("sort")) {
                    if (sorts.size() == 6) throw new Fault(3, clause.start);
                    readSort(in);
                } else {
                    boolean known = in.word("ship") || in.word("rocks") || in.word("drift") || in.word("lag");
                    in.need(known);
                    if (!told.add(clause.text)) throw new Fault(3, clause.start);
                    readClause(in, clause.text);
                }
                in.need(in.sign(';'));
            }
            if (rocks.contains(ship)) throw new Fault(5, t.length());
        }

        void readClause(Tokens in, String clause) {
            switch (clause) {
                case "ship":
                    ship = in.number(0, 63);
                    heading = in.number(0, 7);
                    break;
                case "rocks":
                    do {
                        if (!rocks.add(in.number(0, 63))) throw new Fault(4, in.lastStart());
                    } while (in.sign(','));
                    break;
                case "drift":
                    driftHeading = in.number(0, 7);
                    driftEvery = in.number(1, 9);
                    break;
                default:
                    lag = in.number(0, 2);
            }
        }

        void readSort(Tokens in) {
            Sort s = new Sort();
            s.persons = in.number(1, 9);
            if (in.word("likes")) {
                Set<Integer> told = new HashSet<>();
                do {
                    int c = in.number(0, 63);
                    if (!told.add(c)) throw new Fault(4, in.lastStart());
                    s.w[c] = in.number(-9, 9);
                } while (in.sign(','));
            }
            if (in.word("fears")) s.fear = in.number(0, 9);
            sorts.add(s);
        }

        int rule() {
            if (text.length() > 80) return NOT;
            if (rules.size() == 4) return FULL;
            Tokens in = new Tokens(text.toString());
            text.setLength(0);
            PlainRule r = new PlainRule();
            try {
                r.kind = in.peek().text;
                in.need(in.word("most") || in.word("middle") || in.word("mean") || in.word("turns"));
                if (in.word("need")) r.need = in.number(0, 54);
                if (in.word("bar")) {
                    do {
                        if (!r.bars.add(in.number(0, 5))) throw new Fault(4, in.lastStart());
                    } while (in.sign(','));
                }
                if (in.word("unless")) {
                    r.side = in.peek().text.equals("left") ? -1 : 1;
                    in.need(in.word("left") || in.word("right"));
                    r.look = in.number(1, 7);
                }
                in.need(in.peek().kind == 'e');
            } catch (Fault f) {
                fault = f.where;
                return -10 - f.kind;
            }
            fault = -1;
            rules.add(r);
            return rules.size() - 1;
        }

        // ---- the sea

        int persons() {
            int n = 0;
            for (Sort s : sorts) n += s.persons;
            return n;
        }

        int told(int what) {
            int[] all = {ship, heading, driftHeading, driftEvery, lag, sorts.size(), persons(), rocks.size()};
            return what < 0 || what > 7 ? OUTSIDE : all[what];
        }

        static int far(int a, int b) {
            return Math.max(Math.abs(a / 8 - b / 8), Math.abs(a % 8 - b % 8));
        }

        int worthTo(Sort s, int c) {
            if (rocks.contains(c)) return -99;
            int near = 0;
            for (int r : rocks) if (far(r, c) <= 1) near++;
            return s.w[c] - s.fear * near;
        }

        int worthToSet(int c, int set) {
            int sum = 0;
            for (int k = 0; k < sorts.size(); k++) {
                if ((set & 1 << k) != 0) sum += sorts.get(k).persons * worthTo(sorts.get(k), c);
            }
            return sum;
        }

        int personsOfSet(int set) {
            int n = 0;
            for (int k = 0; k < sorts.size(); k++) if ((set & 1 << k) != 0) n += sorts.get(k).persons;
            return n;
        }

        int goal(Sort s) {
            int best = -1;
            for (int c = 63; c >= 0; c--) {
                if (rocks.contains(c)) continue;
                if (best < 0 || worthTo(s, c) >= worthTo(s, best)) best = c;
            }
            return best;
        }

        boolean noCell(int c) {
            return c < 0 || c > 63;
        }

        boolean noSet(int set) {
            return set < 0 || set >= 1 << sorts.size();
        }

        boolean noSort(int s) {
            return s < 0 || s >= sorts.size();
        }

        boolean noRule(int r) {
            return r < 0 || r >= rules.size();
        }

        static boolean off(int v, int a, int b) {
            return v < a || v > b;
        }

        int worth(int c, int set) {
            return noCell(c) || noSet(set) ? UNKNOWN : worthToSet(c, set);
        }

        int sort(int s, int what) {
            if (noSort(s)) return UNKNOWN;
            if (off(what, 0, 4)) return OUTSIDE;
            Sort x = sorts.get(s);
            return new int[] {x.persons, x.fear, goal(x), x.way, x.strength}[what];
        }

        static int step(int c, int h) {
            int row = c / 8, col = c % 8;
            if (h == 7 || h == 0 || h == 1) row--;
            if (h == 3 || h == 4 || h == 5) row++;
            if (h == 1 || h == 2 || h == 3) col++;
            if (h == 5 || h == 6 || h == 7) col--;
            return row < 0 || row > 7 || col < 0 || col > 7 ? c : row * 8 + col;
        }

        /** CELL and HEADING behind a TURN. */
        int[] go(int c, int h, int hour, int turn) {
            int h2 = (h + turn + 8) % 8;
            int c2 = step(c, h2);
            if (!rocks.contains(c2) && driftEvery > 0 && (hour + 1) % driftEvery == 0) c2 = step(c2, driftHeading);
            return new int[] {c2, h2};
        }

        int turns(int c, int h, int hour, int turn, int what) {
            if (noCell(c)) return UNKNOWN;
            if (off(h, 0, 7) || off(hour, 0, 999) || off(turn, -1, 1) || off(what, 0, 2)) return OUTSIDE;
            if (rocks.contains(c)) return NOT;
            int[] next = go(c, h, hour, turn);
            return what < 2 ? next[what] : rocks.contains(next[0]) ? 1 : 0;
        }

        // ---- pressing

        int way(int s, int way, int v) {
            if (noSort(s)) return UNKNOWN;
            if (off(way, 0, 4)) return OUTSIDE;
            if (way == 2 ? off(v, 1, 4) : way == 4 ? off(v, -2, 2) : v != 0) return OUTSIDE;
            int was = sorts.get(s).way;
            sorts.get(s).way = way;
            sorts.get(s).strength = v;
            return was;
        }

        static final int[] ORDER = {0, -1, 1};

        int plain(Sort s, int c, int h) {
            int goal = goal(s), best = 0, off = 1000;
            for (int turn : ORDER) {
                int to = step(c, (h + turn + 8) % 8);
                int d = rocks.contains(to) ? 99 : far(to, goal);
                if (d < off) {
                    off = d;
                    best = turn;
                }
            }
            return best;
        }

        /** Goes through all rows of k TURNS, the first figure of n in threes the first TURN. */
        int ahead(Sort s, int c, int h, int k) {
            int rows = (int) Math.round(Math.pow(3, k)), best = Integer.MIN_VALUE, first = 0;
            for (int n = 0; n < rows; n++) {
                int rest = n, at = c, toward = h, sum = 0;
                int[] row = new int[k];
                for (int i = k - 1; i >= 0; i--) {
                    row[i] = ORDER[rest % 3];
                    rest /= 3;
                }
                boolean struck = false;
                for (int turn : row) {
                    if (!struck) {
                        toward = (toward + turn + 8) % 8;
                        at = step(at, toward);
                        struck = rocks.contains(at);
                    }
                    sum += struck ? -99 : worthTo(s, at);
                }
                if (sum > best) {
                    best = sum;
                    first = row[0];
                }
            }
            return first;
        }

        static int most(List<Integer> presses) {
            int[] n = new int[3];
            for (int p : presses) n[1 + Integer.signum(p)]++;
            int best = 1;
            if (n[0] > n[best]) best = 0;
            if (n[2] > n[best]) best = 2;
            return best - 1;
        }

        /** Presses of all SORTS, those of 'set' all of them 'free'. */
        int[] pressesOf(int c, int h, int set, int free) {
            int[] all = new int[sorts.size()];
            List<Integer> seeing = new ArrayList<>();
            for (int k = 0; k < all.length; k++) {
                Sort s = sorts.get(k);
                if ((set & 1 << k) != 0) all[k] = free;
                else if (s.way == 0) all[k] = plain(s, c, h);
                else if (s.way == 1) all[k] = 2 * plain(s, c, h);
                else if (s.way == 2) all[k] = ahead(s, c, h, s.strength);
                else if (s.way == 4) all[k] = s.strength;
                else continue;
                for (int i = 0; i < s.persons; i++) seeing.add(all[k]);
            }
            for (int k = 0; k < all.length; k++) {
                if ((set & 1 << k) == 0 && sorts.get(k).way == 3) all[k] = most(seeing);
            }
            return all;
        }

        int presses(int s, int c, int h) {
            if (noSort(s) || noCell(c)) return UNKNOWN;
            if (off(h, 0, 7)) return OUTSIDE;
            if (rocks.contains(c)) return NOT;
            return pressesOf(c, h, 0, 0)[s];
        }

        int unless(PlainRule r, int c, int h) {
            int at = c;
            for (int i = 0; i < r.look; i++) {
                at = step(at, h);
                if (rocks.contains(at)) return r.side;
            }
            return 0;
        }

        /** COUNTED of a list of [SORT, press] of each PERSON, without 'unless'. */
        int tally(PlainRule r, List<int[]> persons, int hour) {
            int n = persons.size();
            if (n == 0) return 0;
            List<Integer> presses = new ArrayList<>();
            int sum = 0;
            for (int[] p : persons) {
                presses.add(p[1]);
                sum += p[1];
            }
            int side;
            if (r.kind.equals("most")) side = most(presses);
            else if (r.kind.equals("turns")) side = Integer.signum(presses.get(hour % n));
            else if (r.kind.equals("middle")) {
                List<Integer> sorted = new ArrayList<>(presses);
                sorted.sort(null);
                side = Integer.signum(sorted.get(n % 2 == 1 ? n / 2 : n / 2 - 1));
            } else side = sum == 0 ? 0 : Integer.signum((2 * sum + (sum > 0 ? n : -n)) / (2 * n));
            int with = 0;
            boolean barred = false;
            for (int[] p : persons) {
                if (Integer.signum(p[1]) == side) with++;
                if (Integer.signum(p[1]) == -side && r.bars.contains(p[0])) barred = true;
            }
            return side == 0 || with < r.need || barred ? 0 : side;
        }

        List<int[]> each(int[] presses) {
            List<int[]> all = new ArrayList<>();
            for (int k = 0; k < presses.length; k++) {
                for (int i = 0; i < sorts.get(k).persons; i++) all.add(new int[] {k, presses[k]});
            }
            return all;
        }

        int countedAt(PlainRule r, int c, int h, int hour) {
            int told = unless(r, c, h);
            return told != 0 ? told : tally(r, each(pressesOf(c, h, 0, 0)), hour);
        }

        int counted(int r, int c, int h, int hour) {
            if (noRule(r) || noCell(c)) return UNKNOWN;
            if (off(h, 0, 7) || off(hour, 0, 999)) return OUTSIDE;
            if (rocks.contains(c)) return NOT;
            return countedAt(rules.get(r), c, h, hour);
        }

        // ---- runs

        static final class Way {
            List<int[]> places = new ArrayList<>(); // CELL, HEADING at each HOUR
            List<Integer> done = new ArrayList<>();
            int struck = -1, round = -1, between = -1;
        }

        Way sail(PlainRule r, int c, int h, int hours, int lag, int q) {
            Way way = new Way();
            Map<String, Integer> seen = new HashMap<>();
            ArrayDeque<Integer> late = new ArrayDeque<>();
            for (int i = 0; i < lag; i++) late.add(0);
            int period = Math.max(1, persons()) * (driftEvery > 0 ? driftEvery : 1);
            for (int hour = 0; ; hour++) {
                way.places.add(new int[] {c, h});
                if (rocks.contains(c)) {
                    way.struck = hour;
                    way.round = way.between = -1;
                    return way;
                }
                Integer was = seen.putIfAbsent(c + " " + h + " " + late + " " + hour % period, hour);
                if (was != null && way.round < 0) {
                    way.round = hour;
                    way.between = hour - was;
                }
                if (hour == hours) return way;
                int told = unless(r, c, h);
                int counted = q < 0 ? tally(r, each(pressesOf(c, h, 0, 0)), hour) : drawn(r, c, h, hour, q);
                late.add(told != 0 ? 0 : counted);
                int due = late.remove();
                int turn = told != 0 ? told : due;
                way.done.add(turn);
                int[] next = go(c, h, hour, turn);
                c = next[0];
                h = next[1];
            }
        }

        int draw(int n) {
            seed = (seed * 1103515245L + 12345L) % (1L << 31);
            return (int) (seed / 65536 % n);
        }

        int drawn(PlainRule r, int c, int h, int hour, int q) {
            List<int[]> all = each(pressesOf(c, h, 0, 0));
            for (int[] p : all) if (draw(100) < q) p[1] = draw(3) - 1;
            return tally(r, all, hour);
        }

        Way sail(int r, int hours) {
            return sail(rules.get(r), ship, heading, hours, lag, -1);
        }

        int run(int r, int what) {
            if (noRule(r)) return UNKNOWN;
            if (off(what, 0, 2)) return OUTSIDE;
            Way way = sail(r, 400);
            return what == 0 ? way.struck : what == 1 ? way.round : way.between;
        }

        int at(int r, int t, int what) {
            if (noRule(r)) return UNKNOWN;
            if (off(t, 0, 400) || off(what, 0, 1)) return OUTSIDE;
            Way way = sail(r, 400);
            return t < way.places.size() ? way.places.get(t)[what] : -1;
        }

        int comes(int r, int c) {
            if (noRule(r) || noCell(c)) return UNKNOWN;
            return first(sail(r, 400), c);
        }

        static int first(Way way, int c) {
            for (int t = 0; t < way.places.size(); t++) if (way.places.get(t)[0] == c) return t;
            return -1;
        }

        int log(int turn) {
            if (off(turn, -1, 1)) return OUTSIDE;
            if (log.size() == 40) return FULL;
            log.add(turn);
            return log.size();
        }

        int clear() {
            int n = log.size();
            log = new ArrayList<>();
            return n;
        }

        int judge(int r) {
            if (noRule(r)) return UNKNOWN;
            Way way = sail(r, 400);
            for (int t = 0; t < log.size(); t++) {
                if (t == way.done.size() || !way.done.get(t).equals(log.get(t))) return t;
            }
            return -1;
        }

        // ---- best courses, gains

        /** The TURNS open at a place: all, or those that a SET can bring about. */
        interface Open {
            Set<Integer> at(int c, int h, int hour);
        }

        int greatest(Open open, int set, int c, int h, int hour, int end, Map<Integer, Integer> memo) {
            if (hour == end) return 0;
            int key = (hour * 64 + c) * 8 + h;
            Integer known = memo.get(key);
            if (known != null) return known;
            int best = Integer.MIN_VALUE;
            for (int turn : open.at(c, h, hour)) {
                best = Math.max(best, greatestBy(open, set, c, h, hour, end, turn, memo));
            }
            memo.put(key, best);
            return best;
        }

        int greatestBy(Open open, int set, int c, int h, int hour, int end, int turn, Map<Integer, Integer> memo) {
            int[] next = go(c, h, hour, turn);
            if (rocks.contains(next[0])) return -99 * personsOfSet(set) * (end - hour);
            return worthToSet(next[0], set) + greatest(open, set, next[0], next[1], hour + 1, end, memo);
        }

        static final Open ANY = (c, h, hour) -> new HashSet<>(Arrays.asList(-1, 0, 1));

        int best(int set, int c, int h, int t) {
            if (noSet(set) || noCell(c)) return UNKNOWN;
            if (off(h, 0, 7) || off(t, 1, 24)) return OUTSIDE;
            if (rocks.contains(c)) return NOT;
            return greatest(ANY, set, c, h, 0, t, new HashMap<>());
        }

        int course(int set, int t, int j) {
            if (noSet(set)) return UNKNOWN;
            if (off(t, 1, 24)) return OUTSIDE;
            Map<Integer, Integer> memo = new HashMap<>();
            int c = ship, h = heading;
            for (int hour = 0; hour < t && !rocks.contains(c); hour++) {
                int sum = greatest(ANY, set, c, h, hour, t, memo), turn = 9;
                for (int i = 2; i >= 0; i--) {
                    if (greatestBy(ANY, set, c, h, hour, t, ORDER[i], memo) == sum) turn = ORDER[i];
                }
                if (hour == j) return turn;
                int[] next = go(c, h, hour, turn);
                c = next[0];
                h = next[1];
            }
            return 9;
        }

        int worthOf(Way way, int set, int t) {
            int sum = 0;
            for (int hour = 1; hour <= t; hour++) {
                boolean afloat = hour < way.places.size() && !rocks.contains(way.places.get(hour)[0]);
                sum += afloat ? worthToSet(way.places.get(hour)[0], set) : -99 * personsOfSet(set);
            }
            return sum;
        }

        int value(int r, int set, int t) {
            if (noRule(r) || noSet(set)) return UNKNOWN;
            if (off(t, 1, 24)) return OUTSIDE;
            return worthOf(sail(r, t), set, t);
        }

        Set<Integer> bringAbout(PlainRule r, int set, int c, int h, int hour) {
            Set<Integer> open = new HashSet<>();
            int told = unless(r, c, h);
            if (told != 0) {
                open.add(told);
                return open;
            }
            for (int free = -2; free <= 2; free++) open.add(tally(r, each(pressesOf(c, h, set, free)), hour));
            return open;
        }

        int gainOf(PlainRule r, int set, int t) {
            Map<Integer, Set<Integer>> found = new HashMap<>();
            int period = r.kind.equals("turns") ? Math.max(1, persons()) : 1;
            Open open = (c, h, hour) -> found.computeIfAbsent((hour % period * 64 + c) * 8 + h,
                    k -> bringAbout(r, set, c, h, hour));
            int free = greatest(open, set, ship, heading, 0, t, new HashMap<>());
            return free - worthOf(sail(r, ship, heading, t, 0, -1), set, t);
        }

        int gain(int r, int set, int t) {
            if (noRule(r) || noSet(set)) return UNKNOWN;
            if (off(t, 1, 24)) return OUTSIDE;
            return gainOf(rules.get(r), set, t);
        }

        int pact(int r, int t) {
            if (noRule(r)) return UNKNOWN;
            if (off(t, 1, 12)) return OUTSIDE;
            for (int set = 0; set < 1 << sorts.size(); set++) {
                if (Integer.bitCount(set) < 2) continue;
                int apart = 0;
                for (int k = 0; k < 6; k++) if ((set & 1 << k) != 0) apart += gainOf(rules.get(r), 1 << k, t);
                if (gainOf(rules.get(r), set, t) > apart) return set;
            }
            return -1;
        }

        int sides(int r, int c, int what) {
            if (noRule(r) || noCell(c)) return UNKNOWN;
            if (off(what, 0, 2)) return OUTSIDE;
            int n = 0;
            for (int from = 0; from < 64; from++) {
                for (int h = 0; h < 8 && !rocks.contains(from); h++) {
                    Way way = sail(rules.get(r), from, h, 400, lag, -1);
                    if (what == 0 ? way.struck >= 0 : what == 1 ? way.round >= 0 : first(way, c) >= 0) n++;
                }
            }
            return n;
        }

        int bestRule(int set, int t, int what) {
            if (noSet(set)) return UNKNOWN;
            if (off(t, 1, 24) || off(what, 0, 1)) return OUTSIDE;
            String[] kinds = {"most", "middle", "mean", "turns"};
            int[] sides = {0, -1, 1, -1, 1}, looks = {0, 1, 1, 2, 2};
            int told = -1, best = 0;
            for (int kind = 0; kind < 4; kind++) {
                for (int need = 0; need < 10; need++) {
                    for (int u = 0; u < 5; u++) {
                        PlainRule r = new PlainRule();
                        r.kind = kinds[kind];
                        r.need = need;
                        r.side = sides[u];
                        r.look = looks[u];
                        int sum = worthOf(sail(r, ship, heading, t, lag, -1), set, t);
                        if (told < 0 || sum > best) {
                            told = 50 * kind + 5 * need + u;
                            best = sum;
                        }
                    }
                }
            }
            return what == 0 ? told : best;
        }

        // ---- voyages, images

        int seed(int v) {
            if (v < 0) return OUTSIDE;
            int was = (int) seed;
            seed = v;
            return was;
        }

        int voyage(int r, int q, int n) {
            if (noRule(r)) return UNKNOWN;
            if (off(q, 0, 100) || off(n, 1, 99)) return OUTSIDE;
            Way way = sail(rules.get(r), ship, heading, n, lag, q);
            return way.places.get(way.places.size() - 1)[0];
        }

        int count(int what) {
            return what == 0 ? rules.size() : what == 1 ? log.size() : what == 2 ? text.length() : OUTSIDE;
        }

        int keep(int i) {
            if (off(i, 0, 1)) return UNKNOWN;
            Image image = new Image();
            image.ways = new int[sorts.size()];
            image.strengths = new int[sorts.size()];
            for (int k = 0; k < sorts.size(); k++) {
                image.ways[k] = sorts.get(k).way;
                image.strengths[k] = sorts.get(k).strength;
            }
            image.log = new ArrayList<>(log);
            image.seed = seed;
            images[i] = image;
            return 1;
        }

        int goBack(int i) {
            if (off(i, 0, 1)) return UNKNOWN;
            if (images[i] == null) return NOT;
            for (int k = 0; k < sorts.size(); k++) {
                sorts.get(k).way = images[i].ways[k];
                sorts.get(k).strength = images[i].strengths[k];
            }
            log = new ArrayList<>(images[i].log);
            seed = images[i].seed;
            return 1;
        }
    }

    // ---- drawn texts

    static String blanks(Random d) {
        return d.nextInt(6) == 0 ? "  ".substring(d.nextInt(2)) : "";
    }

    static String join(Random d, String... parts) {
        StringBuilder all = new StringBuilder();
        for (String part : parts) {
            boolean alike = all.length() > 0 && !part.isEmpty()
                    && kind(all.charAt(all.length() - 1)) == kind(part.charAt(0)) && kind(part.charAt(0)) != 0;
            boolean tight = d.nextInt(3) == 0;
            if (alike || !tight && all.length() > 0 && kind(part.charAt(0)) != 0) all.append(' ');
            all.append(blanks(d)).append(part);
        }
        return all.toString();
    }

    static int kind(char c) {
        return c >= 'a' && c <= 'z' ? 1 : c >= '0' && c <= '9' ? 2 : c == '-' ? 3 : 0;
    }

    static String num(Random d, int least, int most) {
        int v = least + d.nextInt(most - least + 1);
        if (v >= 0 && v < 10 && d.nextInt(12) == 0) return "0" + v;
        return v == 0 && least < 0 && d.nextInt(4) == 0 ? "-0" : "" + v;
    }

    static String drawnSea(Random d) {
        List<String> clauses = new ArrayList<>();
        if (d.nextInt(4) != 0) clauses.add(join(d, "ship", num(d, 0, 63), num(d, 0, 7)));
        if (d.nextInt(4) != 0) clauses.add(join(d, "rocks", list(d, d.nextInt(9) + 1, false)));
        if (d.nextInt(2) != 0) clauses.add(join(d, "drift", num(d, 0, 7), num(d, 1, 9)));
        if (d.nextInt(2) != 0) clauses.add(join(d, "lag", num(d, 0, 2)));
        int n = d.nextInt(8) == 0 ? d.nextInt(8) : d.nextInt(4) + 1;
        for (int i = 0; i < n; i++) {
            List<String> parts = new ArrayList<>();
            parts.add("sort");
            parts.add(num(d, 1, d.nextInt(3) == 0 ? 9 : 3));
            if (d.nextInt(5) != 0) {
                parts.add("likes");
                parts.add(list(d, d.nextInt(n > 4 ? 3 : 6) + 1, true));
            }
            if (d.nextInt(2) != 0) {
                parts.add("fears");
                parts.add(num(d, 0, 9));
            }
            clauses.add(join(d, parts.toArray(new String[0])));
        }
        if (d.nextInt(4) == 0) java.util.Collections.shuffle(clauses, d);
        StringBuilder all = new StringBuilder();
        for (String c : clauses) all.append(blanks(d)).append(c).append(blanks(d)).append(';');
        return all.append(blanks(d)).toString();
    }

    static String list(Random d, int n, boolean worths) {
        Set<Integer> cells = new HashSet<>();
        while (cells.size() < n) cells.add(d.nextInt(64));
        StringBuilder all = new StringBuilder();
        for (int c : cells) {
            if (all.length() > 0) all.append(blanks(d)).append(',').append(blanks(d));
            all.append(worths ? join(d, "" + c, num(d, -9, 9)) : "" + c);
        }
        return all.toString();
    }

    static String drawnRule(Random d) {
        List<String> parts = new ArrayList<>();
        parts.add(new String[] {"most", "middle", "mean", "turns"}[d.nextInt(4)]);
        if (d.nextInt(3) == 0) {
            parts.add("need");
            parts.add(d.nextInt(6) == 0 ? num(d, 0, 54) : num(d, 0, 5));
        }
        if (d.nextInt(3) == 0) {
            parts.add("bar");
            parts.add(d.nextBoolean() ? num(d, 0, 5) : join(d, "" + d.nextInt(3), ",", "" + (3 + d.nextInt(3))));
        }
        if (d.nextInt(3) == 0) {
            parts.add("unless");
            parts.add(d.nextBoolean() ? "left" : "right");
            parts.add(num(d, 1, 7));
        }
        return join(d, parts.toArray(new String[0]));
    }

    static String spoilt(Random d, String text) {
        StringBuilder t = new StringBuilder(text);
        for (int n = d.nextInt(2) + 1; n > 0; n--) {
            int i = d.nextInt(t.length() + 1);
            String odd = "0123456789-,;  sortlikesfearsunlessA\u0000\u00ff";
            char c = odd.charAt(d.nextInt(odd.length()));
            switch (d.nextInt(5)) {
                case 0: t.insert(i, c); break;
                case 1: if (i < t.length()) t.deleteCharAt(i); break;
                case 2: if (i < t.length()) t.setCharAt(i, c); break;
                case 3: t.insert(i, t.substring(i, Math.min(t.length(), i + d.nextInt(14)))); break;
                default: t.setLength(i);
            }
        }
        return t.toString();
    }

    // ---- runs of calls

    static void same(int run, String call, int got, int want) {
        calls++;
        if (got == want) return;
        wrong++;
        if (wrong < 30) System.out.println("run " + run + ": " + call + " answered " + got + ", the model says " + want);
    }

    static void feedAll(int run, NineWheel x, Model m, Random d, String text) {
        int i = 0;
        while (i < text.length()) {
            int n = Math.min(text.length() - i, 1 + d.nextInt(8));
            long bytes = d.nextLong();
            for (int k = 0; k < n; k++) bytes = bytes << 8 | text.charAt(i + k);
            same(run, "feed(" + n + ", " + bytes + ")", x.feed(n, bytes), m.feed(n, bytes));
            i += n;
        }
    }

    static void tellSea(int run, NineWheel x, Model m, Random d, String text) {
        feedAll(run, x, m, d, text);
        same(run, "sea() of '" + text + "'", x.sea(), m.sea());
        same(run, "fault() of '" + text + "'", x.fault(), m.fault);
        for (int what = -1; what < 9; what++) same(run, "told " + what, x.told(what), m.told(what));
    }

    static void tellRule(int run, NineWheel x, Model m, Random d, String text) {
        feedAll(run, x, m, d, text);
        same(run, "rule() of '" + text + "'", x.rule(), m.rule());
        same(run, "fault() of '" + text + "'", x.fault(), m.fault);
    }

    /** Mostly within the bounds, at times just outside or far off. */
    static int num(Random d, int least, int most, int odds) {
        if (d.nextInt(odds) != 0) return least + d.nextInt(most - least + 1);
        int[] off = {least - 1, most + 1, Integer.MIN_VALUE, Integer.MAX_VALUE, -1, least, most};
        return off[d.nextInt(off.length)];
    }

    static void drawnCall(int run, NineWheel x, Model m, Random d) {
        int o = 25;
        int s = num(d, 0, Math.max(0, m.sorts.size() - 1), o), c = num(d, 0, 63, o), h = num(d, 0, 7, o);
        int r = num(d, 0, Math.max(0, m.rules.size() - 1), o), hour = num(d, 0, 999, o), turn = num(d, -1, 1, o);
        int set = num(d, 0, (1 << m.sorts.size()) - 1, o), t = num(d, 1, d.nextInt(3) == 0 ? 24 : 8, o);
        int short_ = num(d, 1, d.nextInt(5) == 0 ? 12 : 5, o);
        int i = num(d, 0, 1, o), three = num(d, 0, 2, o), q = num(d, 0, 100, o);
        String args = " s=" + s + " c=" + c + " h=" + h + " r=" + r + " hour=" + hour + " turn=" + turn
                + " set=" + set + " t=" + t + " i=" + i + " three=" + three + " q=" + q + " short=" + short_;
        switch (d.nextInt(30)) {
            case 0: same(run, "worth" + args, x.worth(c, set), m.worth(c, set)); break;
            case 1: case 2: {
                int what = num(d, 0, 4, o);
                same(run, "sort what=" + what + args, x.sort(s, what), m.sort(s, what));
                break;
            }
            case 3: same(run, "turns" + args, x.turns(c, h, hour, turn, three), m.turns(c, h, hour, turn, three)); break;
            case 4: case 5: case 6: {
                int way = num(d, 0, 4, o), v = way == 2 ? num(d, 1, 4, o) : way == 4 ? num(d, -2, 2, o) : num(d, 0, 0, o);
                same(run, "way " + way + " " + v + args, x.way(s, way, v), m.way(s, way, v));
                break;
            }
            case 7: case 8: case 9: same(run, "presses" + args, x.presses(s, c, h), m.presses(s, c, h)); break;
            case 10: case 11: case 12:
                same(run, "counted" + args, x.counted(r, c, h, hour), m.counted(r, c, h, hour));
                break;
            case 13: same(run, "run" + args, x.run(r, three), m.run(r, three)); break;
            case 14: {
                int when = d.nextBoolean() ? num(d, 0, 400, o) : num(d, 0, 20, o);
                same(run, "at " + when + args, x.at(r, when, i), m.at(r, when, i));
                break;
            }
            case 15: same(run, "comes" + args, x.comes(r, c), m.comes(r, c)); break;
            case 16: {
                if (d.nextInt(3) != 0 && m.rules.size() > 0) {
                    List<Integer> done = m.sail(d.nextInt(m.rules.size()), 60).done;
                    for (int k = m.log.size(); k < done.size() && k < 40; k++) {
                        if (d.nextInt(20) == 0) break;
                        same(run, "log(" + done.get(k) + ")", x.log(done.get(k)), m.log(done.get(k)));
                    }
                }
                same(run, "log" + args, x.log(turn), m.log(turn));
                break;
            }
            case 17: if (d.nextInt(3) == 0) same(run, "clear", x.clear(), m.clear()); break;
            case 18: same(run, "judge" + args, x.judge(r), m.judge(r)); break;
            case 19: same(run, "best" + args, x.best(set, c, h, t), m.best(set, c, h, t)); break;
            case 20: {
                int j = num(d, 0, 24, o);
                same(run, "course " + j + args, x.course(set, t, j), m.course(set, t, j));
                break;
            }
            case 21: same(run, "value" + args, x.value(r, set, t), m.value(r, set, t)); break;
            case 22: case 23:
                same(run, "gain" + args, x.gain(r, set, t), m.gain(r, set, t));
                break;
            case 24:
                same(run, "pact" + args, x.pact(r, short_), m.pact(r, short_));
                break;
            case 25:
                if (d.nextInt(12) == 0) same(run, "sides" + args, x.sides(r, c, three), m.sides(r, c, three));
                break;
            case 26:
                if (d.nextInt(3) == 0) same(run, "bestRule" + args, x.bestRule(set, t, i), m.bestRule(set, t, i));
                break;
            case 27: {
                int n = num(d, 1, 99, o);
                if (d.nextInt(4) == 0) same(run, "seed " + hour, x.seed(hour * 1234567), m.seed(hour * 1234567));
                same(run, "voyage n=" + n + args, x.voyage(r, q, n), m.voyage(r, q, n));
                break;
            }
            case 28: same(run, "count" + args, x.count(three), m.count(three)); break;
            default:
                if (d.nextBoolean()) same(run, "keep" + args, x.keep(i), m.keep(i));
                else same(run, "goBack" + args, x.goBack(i), m.goBack(i));
        }
    }

    static void drawnRun(int run, Random d) {
        NineWheel x = new NineWheel();
        Model m = new Model();
        int before = calls;
        if (d.nextInt(10) != 0) tellSea(run, x, m, d, drawnSea(d));
        for (int n = d.nextInt(4); n >= 0; n--) tellRule(run, x, m, d, drawnRule(d));
        while (calls - before < 400) {
            int kind = d.nextInt(40);
            if (kind == 0) tellSea(run, x, m, d, drawnSea(d));
            else if (kind == 1) tellSea(run, x, m, d, spoilt(d, drawnSea(d)));
            else if (kind == 2) tellRule(run, x, m, d, spoilt(d, drawnRule(d)));
            else if (kind == 3) feedAll(run, x, m, d, " ");
            else drawnCall(run, x, m, d);
        }
    }

    static void drawnTexts(int run, Random d) {
        NineWheel x = new NineWheel();
        Model m = new Model();
        for (int i = 0; i < 12; i++) {
            tellSea(run, x, m, d, d.nextInt(4) == 0 ? drawnSea(d) : spoilt(d, drawnSea(d)));
            tellRule(run, x, m, d, d.nextInt(8) == 0 ? drawnRule(d) : spoilt(d, drawnRule(d)));
        }
    }

    public static void main(String[] args) {
        int runs = args.length > 0 ? Integer.parseInt(args[0]) : 120;
        long first = args.length > 1 ? Long.parseLong(args[1]) : 1;
        for (int run = 0; run < runs; run++) drawnRun(run, new Random(first * 1000003 + run));
        for (int run = 0; run < 10 * runs; run++) drawnTexts(run, new Random(first * 7000003 + run));
        System.out.println(calls + " calls compared with the plain model, " + wrong + " answers differ");
        if (wrong != 0) System.exit(1);
    }
}
