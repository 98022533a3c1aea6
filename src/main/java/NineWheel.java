import java.util.Arrays;

/**
 * A ship among rocks that turns as those aboard press. The words in capitals are those of the
 * document. A PLACE, here, is a CELL and a HEADING in one number: CELL * 8 + HEADING. A TURN is kept
 * in sets of TURNS as the bit TURN + 1.
 */
public final class NineWheel {
    public static final int NONE = -1, UNKNOWN = -1000001, OUTSIDE = -1000002, NOT = -1000003, FULL = -1000004;

    private static final int CELLS = 64, HEADINGS = 8, PLACES = 512;
    private static final int MOST_SORTS = 6, MOST_RULES = 4, MOST_LOG = 40, MOST_IMAGES = 2;
    private static final int MOST_TEXT = 300, MOST_RULE_TEXT = 80;
    private static final int LAST_HOUR = 400, LATEST_ASKED = 999;
    private static final int LONGEST_COURSE = 24, LONGEST_PACT = 12, LONGEST_VOYAGE = 99;
    private static final int LOSS = -99, ROCK_DISTANCE = 99, LEAST = -1000000000;
    private static final int PLAIN = 0, HARD = 1, AHEAD = 2, BLIND = 3, TOLD = 4;
    private static final int MOST = 0, MIDDLE = 1, MEAN = 2, TURNS = 3;
    private static final int NO_DRAWS = -1;
    private static final int NO_SUCH_TURN = 9;
    private static final int ALL_TURNS = 7;
    /** The order in which like TURNS are preferred. */
    private static final int[] TURN_ORDER = {0, -1, 1};
    private static final int[] ROWS_ON = {-1, -1, 0, 1, 1, 1, 0, -1};
    private static final int[] COLUMNS_ON = {0, 1, 1, 1, 0, -1, -1, -1};

    private final Text text = new Text();
    private final Sea sea = new Sea();
    private final Sea draft = new Sea();
    private final SeaReader reader = new SeaReader(text, draft);
    private final Rule[] rules = {new Rule(), new Rule(), new Rule(), new Rule()};
    private final Rule spare = new Rule();
    private int ruleCount;
    private final Held held = new Held();
    private final Held[] images = {new Held(), new Held()};
    private final Crew crew = new Crew(sea, held);
    private final Counting counting = new Counting(sea, crew, spare);
    private final Journey journey = new Journey(sea, crew, counting, held);
    private final Courses courses = new Courses(sea, counting);
    /** The GAIN of each SORT by itself. */
    private final int[] alone = new int[MOST_SORTS];

    public NineWheel() {
    }

    // ---- the sea

    public int feed(int n, long bytes) {
        if (outside(n, 1, 8)) return OUTSIDE;
        if (text.length + n > MOST_TEXT) return FULL;
        for (int i = n - 1; i >= 0; i--) text.append((int) (bytes >>> 8 * i) & 255);
        return text.length;
    }

    public int sea() {
        text.begin();
        reader.read();
        text.length = 0;
        if (text.fault != 0) return -10 - text.fault;
        draft.settle();
        sea.become(draft);
        held.allPlain();
        for (int i = 0; i < MOST_IMAGES && i < images.length; i++) images[i].kept = false;
        crew.fresh = false;
        return sea.sorts;
    }

    public int rule() {
        if (text.length > MOST_RULE_TEXT) return NOT;
        if (ruleCount >= MOST_RULES || ruleCount >= rules.length) return FULL;
        text.begin();
        spare.read(text);
        text.length = 0;
        if (text.fault != 0) return -10 - text.fault;
        rules[ruleCount].become(spare);
        return ruleCount++;
    }

    public int fault() {
        return text.faultAt;
    }

    public int told(int what) {
        switch (what) {
            case 0: return sea.ship;
            case 1: return sea.heading;
            case 2: return sea.driftEvery > 0 ? sea.driftHeading : NONE;
            case 3: return sea.driftEvery > 0 ? sea.driftEvery : NONE;
            case 4: return sea.lag;
            case 5: return sea.sorts;
            case 6: return sea.persons;
            case 7: return sea.rockCount;
            default: return OUTSIDE;
        }
    }

    public int worth(int c, int set) {
        if (noCell(c) || noSet(set)) return UNKNOWN;
        return sea.worthToSet(c, set);
    }

    public int sort(int s, int what) {
        if (noSort(s)) return UNKNOWN;
        switch (what) {
            case 0: return sea.personsOf(s);
            case 1: return sea.fearOf(s);
            case 2: return sea.goalOf(s);
            case 3: return held.wayOf(s);
            case 4: return held.strengthOf(s);
            default: return OUTSIDE;
        }
    }

    public int turns(int c, int h, int hour, int turn, int what) {
        if (noCell(c)) return UNKNOWN;
        if (noHeading(h) || noHour(hour) || noTurn(turn) || outside(what, 0, 2)) return OUTSIDE;
        if (sea.isRock(c)) return NOT;
        int place = sea.moved(c * HEADINGS + h, turn, hour);
        if (what == 0) return cellOf(place);
        if (what == 1) return headingOf(place);
        return sea.isRock(cellOf(place)) ? 1 : 0;
    }

    // ---- pressing

    public int way(int s, int way, int v) {
        if (noSort(s)) return UNKNOWN;
        if (outside(way, PLAIN, TOLD) || noStrength(way, v)) return OUTSIDE;
        int was = held.wayOf(s);
        held.setWay(s, way, v);
        crew.fresh = false;
        return was;
    }

    public int presses(int s, int c, int h) {
        if (noSort(s) || noCell(c)) return UNKNOWN;
        if (noHeading(h)) return OUTSIDE;
        if (sea.isRock(c)) return NOT;
        crew.ready();
        return crew.press(s, c * HEADINGS + h);
    }

    public int counted(int r, int c, int h, int hour) {
        if (noRule(r) || noCell(c)) return UNKNOWN;
        if (noHeading(h) || noHour(hour)) return OUTSIDE;
        if (sea.isRock(c)) return NOT;
        crew.ready();
        counting.begin(rules[r], 0);
        return onlyTurn(counting.options(c * HEADINGS + h, hour));
    }

    // ---- runs

    public int run(int r, int what) {
        if (noRule(r)) return UNKNOWN;
        if (outside(what, 0, 2)) return OUTSIDE;
        sail(rules[r], LAST_HOUR, NO_DRAWS);
        if (what == 0) return journey.struck ? journey.gone : NONE;
        int between = journey.hoursRound();
        if (between == 0) return NONE;
        return what == 2 ? between : journey.firstRound(between);
    }

    public int at(int r, int t, int what) {
        if (noRule(r)) return UNKNOWN;
        if (outside(t, 0, LAST_HOUR) || outside(what, 0, 1)) return OUTSIDE;
        sail(rules[r], t, NO_DRAWS);
        if (journey.gone < t) return NONE;
        int place = journey.placeAt(t);
        return what == 0 ? cellOf(place) : headingOf(place);
    }

    public int comes(int r, int c) {
        if (noRule(r) || noCell(c)) return UNKNOWN;
        sail(rules[r], LAST_HOUR, NO_DRAWS);
        return journey.firstAt(c);
    }

    public int log(int turn) {
        if (noTurn(turn)) return OUTSIDE;
        if (held.logged >= MOST_LOG) return FULL;
        held.write(turn);
        return held.logged;
    }

    public int clear() {
        int had = held.logged;
        held.logged = 0;
        return had;
    }

    public int judge(int r) {
        if (noRule(r)) return UNKNOWN;
        sail(rules[r], held.logged, NO_DRAWS);
        for (int hour = 0; hour < held.logged; hour++) {
            if (hour >= journey.gone || journey.turnAt(hour) != held.turnAt(hour)) return hour;
        }
        return NONE;
    }

    // ---- best courses, gains

    public int best(int set, int c, int h, int t) {
        if (noSet(set) || noCell(c)) return UNKNOWN;
        if (noHeading(h) || outside(t, 1, LONGEST_COURSE)) return OUTSIDE;
        if (sea.isRock(c)) return NOT;
        counting.beginAny();
        return courses.greatest(set, c * HEADINGS + h, t);
    }

    public int course(int set, int t, int j) {
        if (noSet(set)) return UNKNOWN;
        if (outside(t, 1, LONGEST_COURSE)) return OUTSIDE;
        if (outside(j, 0, t - 1)) return NO_SUCH_TURN;
        counting.beginAny();
        courses.greatest(set, sea.start(), t);
        return courses.turnOf(sea.start(), j);
    }

    public int value(int r, int set, int t) {
        if (noRule(r) || noSet(set)) return UNKNOWN;
        if (outside(t, 1, LONGEST_COURSE)) return OUTSIDE;
        sail(rules[r], t, NO_DRAWS);
        return journey.worthTo(set, t);
    }

    public int gain(int r, int set, int t) {
        if (noRule(r) || noSet(set)) return UNKNOWN;
        if (outside(t, 1, LONGEST_COURSE)) return OUTSIDE;
        return gained(rules[r], set, t);
    }

    public int pact(int r, int t) {
        if (noRule(r)) return UNKNOWN;
        if (outside(t, 1, LONGEST_PACT)) return OUTSIDE;
        for (int s = 0; s < sea.sorts && s < alone.length; s++) alone[s] = gained(rules[r], 1 << s, t);
        for (int set = 1; set < 1 << sea.sorts; set++) {
            if (Integer.bitCount(set) < 2) continue;
            int apart = 0;
            for (int s = 0; s < alone.length; s++) {
                if (holds(set, s)) apart += alone[s];
            }
            if (gained(rules[r], set, t) > apart) return set;
        }
        return NONE;
    }

    public int sides(int r, int c, int what) {
        if (noRule(r) || noCell(c)) return UNKNOWN;
        if (outside(what, 0, 2)) return OUTSIDE;
        crew.ready();
        counting.begin(rules[r], 0);
        int many = 0;
        for (int place = 0; place < PLACES; place++) {
            if (sea.isRock(cellOf(place))) continue;
            journey.sail(rules[r], place, LAST_HOUR, NO_DRAWS);
            if (what == 0 && journey.struck) many++;
            if (what == 1 && journey.hoursRound() != 0) many++;
            if (what == 2 && journey.firstAt(c) != NONE) many++;
        }
        return many;
    }

    public int bestRule(int set, int t, int what) {
        if (noSet(set)) return UNKNOWN;
        if (outside(t, 1, LONGEST_COURSE) || outside(what, 0, 1)) return OUTSIDE;
        int best = LEAST, told = 0;
        for (int number = 0; number < 200; number++) {
            spare.become(number / 50, number / 5 % 10, number % 5);
            sail(spare, t, NO_DRAWS);
            int sum = journey.worthTo(set, t);
            if (sum > best) {
                best = sum;
                told = number;
            }
        }
        return what == 0 ? told : best;
    }

    // ---- voyages, images

    public int seed(int v) {
        if (v < 0) return OUTSIDE;
        int was = held.seed;
        held.seed = v;
        return was;
    }

    public int voyage(int r, int q, int n) {
        if (noRule(r)) return UNKNOWN;
        if (outside(q, 0, 100) || outside(n, 1, LONGEST_VOYAGE)) return OUTSIDE;
        sail(rules[r], n, q);
        return cellOf(journey.placeAt(journey.gone));
    }

    public int count(int what) {
        if (what == 0) return ruleCount;
        if (what == 1) return held.logged;
        return what == 2 ? text.length : OUTSIDE;
    }

    public int keep(int i) {
        if (noImage(i)) return UNKNOWN;
        images[i].become(held);
        images[i].kept = true;
        return 1;
    }

    public int goBack(int i) {
        if (noImage(i)) return UNKNOWN;
        if (!images[i].kept) return NOT;
        held.become(images[i]);
        crew.fresh = false;
        return 1;
    }

    // ---- what the calls share

    private static boolean outside(int number, int least, int most) {
        return number < least || number > most;
    }

    private static boolean noCell(int c) {
        return c < 0 || c >= CELLS;
    }

    private static boolean noHeading(int h) {
        return outside(h, 0, HEADINGS - 1);
    }

    private static boolean noHour(int hour) {
        return outside(hour, 0, LATEST_ASKED);
    }

    private static boolean noTurn(int turn) {
        return outside(turn, -1, 1);
    }

    private static boolean noStrength(int way, int v) {
        if (way == AHEAD) return outside(v, 1, 4);
        return way == TOLD ? outside(v, -2, 2) : v != 0;
    }

    private boolean noSort(int s) {
        return outside(s, 0, sea.sorts - 1);
    }

    private boolean noSet(int set) {
        return outside(set, 0, (1 << sea.sorts) - 1);
    }

    private boolean noRule(int r) {
        return outside(r, 0, ruleCount - 1) || r >= rules.length;
    }

    private boolean noImage(int i) {
        return outside(i, 0, MOST_IMAGES - 1) || i >= images.length;
    }

    private static int cellOf(int place) {
        return place >> 3;
    }

    private static int headingOf(int place) {
        return place & 7;
    }

    private static boolean holds(int set, int k) {
        return (set >> k & 1) != 0;
    }

    /** The TURN in a set of one. */
    private static int onlyTurn(int options) {
        return options == 1 ? -1 : options == 4 ? 1 : 0;
    }

    private void sail(Rule rule, int hours, int q) {
        crew.ready();
        counting.begin(rule, 0);
        journey.sail(rule, sea.start(), hours, q);
    }

    private int gained(Rule rule, int set, int hours) {
        crew.ready();
        counting.begin(rule, set);
        int pressing = courses.greatest(set, sea.start(), hours);
        counting.begin(rule, 0);
        return pressing - courses.greatest(set, sea.start(), hours);
    }

    /** THE TEXT and its reading. Reading goes from left to right, so the first FAULT found is the one to tell. */
    private static final class Text {
        static final int END = -1;
        static final int MISPLACED = 1, WRONG_NUMBER = 2, TOLD_ALREADY = 3, AGAIN = 4, SHIP_ON_ROCK = 5;

        final byte[] bytes = new byte[MOST_TEXT];
        int length;
        int at;
        int numberAt;
        int fault;
        int faultAt = NONE;

        void append(int b) {
            if (length >= bytes.length) return;
            bytes[length] = (byte) b;
            length++;
        }

        void begin() {
            at = 0;
            fault = 0;
            faultAt = NONE;
        }

        int byteAt(int i) {
            return i >= 0 && i < length && i < bytes.length ? bytes[i] & 255 : END;
        }

        void fail(int kind, int where) {
            if (fault != 0) return;
            fault = kind;
            faultAt = where;
        }

        void skipBlanks() {
            while (at < length && byteAt(at) == ' ') at++;
        }

        boolean ended() {
            skipBlanks();
            return at >= length;
        }

        boolean takes(char sign) {
            skipBlanks();
            if (fault != 0 || byteAt(at) != sign) return false;
            at++;
            return true;
        }

        /** Only a whole word counts: 'ships' is not 'ship' with something behind it. */
        boolean takes(String word) {
            skipBlanks();
            int end = at;
            while (end < length && byteAt(end) >= 'a' && byteAt(end) <= 'z') end++;
            if (fault != 0 || end - at != word.length()) return false;
            for (int i = 0; i < word.length(); i++) {
                if (byteAt(at + i) != word.charAt(i)) return false;
            }
            at = end;
            return true;
        }

        /** A '-' may stand ahead where the least is below 0. With a FAULT the answer is 0. */
        int number(int least, int most) {
            skipBlanks();
            if (fault != 0) return 0;
            numberAt = at;
            boolean minus = least < 0 && byteAt(at) == '-';
            if (minus) at++;
            int first = at, sum = 0;
            while (at < length && byteAt(at) >= '0' && byteAt(at) <= '9') {
                if (at - first < 2) sum = 10 * sum + byteAt(at) - '0';
                at++;
            }
            if (minus) sum = -sum;
            if (at == first) {
                fail(MISPLACED, at);
            } else if (at - first > 2 || outside(sum, least, most)) {
                fail(WRONG_NUMBER, numberAt);
            }
            return fault != 0 ? 0 : sum;
        }
    }

    /** Reads THE SEA into a draft, so that a FAULT leaves THE SEA as it was. */
    private static final class SeaReader {
        static final int SHIP = 1, ROCKS = 2, DRIFT = 4, LAG = 8;

        final Text text;
        final Sea sea;
        int told;

        SeaReader(Text text, Sea sea) {
            this.text = text;
            this.sea = sea;
        }

        void read() {
            sea.empty();
            told = 0;
            for (int i = 0; i < MOST_TEXT && text.fault == 0 && !text.ended(); i++) {
                clause(text.at);
                if (!text.takes(';')) text.fail(Text.MISPLACED, text.at);
            }
            if (text.fault == 0 && sea.isRock(sea.ship)) text.fail(Text.SHIP_ON_ROCK, text.length);
        }

        private void clause(int start) {
            if (text.takes("ship")) {
                once(SHIP, start);
                sea.ship = text.number(0, CELLS - 1);
                sea.heading = text.number(0, HEADINGS - 1);
            } else if (text.takes("rocks")) {
                once(ROCKS, start);
                rocks();
            } else if (text.takes("drift")) {
                once(DRIFT, start);
                sea.driftHeading = text.number(0, HEADINGS - 1);
                sea.driftEvery = text.number(1, 9);
            } else if (text.takes("lag")) {
                once(LAG, start);
                sea.lag = text.number(0, 2);
            } else if (text.takes("sort")) {
                if (sea.sorts >= MOST_SORTS) text.fail(Text.TOLD_ALREADY, start);
                people();
            } else {
                text.fail(Text.MISPLACED, start);
            }
        }

        private void once(int clause, int start) {
            if ((told & clause) != 0) text.fail(Text.TOLD_ALREADY, start);
            told |= clause;
        }

        private void rocks() {
            boolean more = true;
            for (int n = 0; n <= CELLS && more; n++) {
                int cell = text.number(0, CELLS - 1);
                if (sea.isRock(cell)) text.fail(Text.AGAIN, text.numberAt);
                if (text.fault == 0) sea.setRock(cell);
                more = text.takes(',');
            }
        }

        private void people() {
            int many = text.number(1, 9);
            if (text.fault != 0) return;
            int sort = sea.addSort(many);
            if (text.takes("likes")) likes(sort);
            if (text.takes("fears")) sea.setFear(sort, text.number(0, 9));
        }

        private void likes(int sort) {
            long liked = 0;
            boolean more = true;
            for (int n = 0; n <= CELLS && more; n++) {
                int cell = text.number(0, CELLS - 1);
                if ((liked >>> cell & 1) != 0) text.fail(Text.AGAIN, text.numberAt);
                liked |= 1L << cell;
                sea.setLiking(sort, cell, text.number(-9, 9));
                more = text.takes(',');
            }
        }
    }

    /** THE SEA. While it is read, the rows of worths hold what each CELL is told to be worth; settle() makes WORTH of it. */
    private static final class Sea {
        int ship;
        int heading = 4;
        int driftHeading;
        int driftEvery;
        int lag;
        int sorts;
        int persons;
        int rockCount;
        final int[] people = new int[MOST_SORTS];
        final int[] fears = new int[MOST_SORTS];
        final int[] goals = new int[MOST_SORTS];
        final int[][] worths = new int[MOST_SORTS][CELLS];
        final boolean[] rocks = new boolean[CELLS];

        void empty() {
            ship = 0;
            heading = 4;
            driftHeading = 0;
            driftEvery = 0;
            lag = 0;
            sorts = 0;
            for (int c = 0; c < rocks.length; c++) rocks[c] = false;
        }

        void setRock(int cell) {
            if (!noCell(cell)) rocks[cell] = true;
        }

        int addSort(int many) {
            if (sorts >= MOST_SORTS) return NONE;
            people[sorts] = many;
            fears[sorts] = 0;
            for (int c = 0; c < CELLS; c++) worths[sorts][c] = 0;
            sorts++;
            return sorts - 1;
        }

        void setLiking(int sort, int cell, int w) {
            if (isSort(sort) && !noCell(cell)) worths[sort][cell] = w;
        }

        void setFear(int sort, int fear) {
            if (isSort(sort)) fears[sort] = fear;
        }

        void settle() {
            persons = 0;
            rockCount = 0;
            for (int c = 0; c < CELLS; c++) {
                if (isRock(c)) rockCount++;
            }
            for (int s = 0; s < sorts && s < MOST_SORTS; s++) {
                persons += people[s];
                goals[s] = NONE;
                for (int c = 0; c < CELLS; c++) {
                    worths[s][c] = isRock(c) ? LOSS : worths[s][c] - fears[s] * rocksNear(c);
                    if (!isRock(c) && (goals[s] == NONE || worths[s][c] > worthTo(s, goals[s]))) goals[s] = c;
                }
            }
        }

        private int rocksNear(int cell) {
            int many = 0;
            for (int c = 0; c < CELLS; c++) {
                if (isRock(c) && far(c, cell) <= 1) many++;
            }
            return many;
        }

        void become(Sea other) {
            ship = other.ship;
            heading = other.heading;
            driftHeading = other.driftHeading;
            driftEvery = other.driftEvery;
            lag = other.lag;
            sorts = other.sorts;
            persons = other.persons;
            rockCount = other.rockCount;
            for (int c = 0; c < CELLS; c++) rocks[c] = other.rocks[c];
            for (int s = 0; s < MOST_SORTS; s++) {
                people[s] = other.people[s];
                fears[s] = other.fears[s];
                goals[s] = other.goals[s];
                for (int c = 0; c < CELLS; c++) worths[s][c] = other.worths[s][c];
            }
        }

        boolean isSort(int sort) {
            return sort >= 0 && sort < sorts && sort < MOST_SORTS;
        }

        boolean isRock(int cell) {
            return cell >= 0 && cell < CELLS && rocks[cell];
        }

        int personsOf(int sort) {
            return isSort(sort) ? people[sort] : 0;
        }

        int fearOf(int sort) {
            return isSort(sort) ? fears[sort] : 0;
        }

        int goalOf(int sort) {
            return isSort(sort) ? goals[sort] : NONE;
        }

        int worthTo(int sort, int cell) {
            return isSort(sort) && !noCell(cell) ? worths[sort][cell] : 0;
        }

        int worthToSet(int cell, int set) {
            int sum = 0;
            for (int s = 0; s < sorts; s++) {
                if (holds(set, s)) sum += personsOf(s) * worthTo(s, cell);
            }
            return sum;
        }

        int personsIn(int set) {
            int many = 0;
            for (int s = 0; s < sorts; s++) {
                if (holds(set, s)) many += personsOf(s);
            }
            return many;
        }

        int start() {
            return ship * HEADINGS + heading;
        }

        /** After so many HOURS drift and 'turns' stand as they stood. */
        int period() {
            return Math.max(1, persons) * Math.max(1, driftEvery);
        }

        int sortInTurn(int hour) {
            if (persons <= 0) return 0;
            int person = hour % persons;
            for (int s = 0; s < sorts; s++) {
                person -= personsOf(s);
                if (person < 0) return s;
            }
            return 0;
        }

        static int far(int one, int other) {
            return Math.max(Math.abs((one >> 3) - (other >> 3)), Math.abs((one & 7) - (other & 7)));
        }

        /** Where a TURN alone brings her; at the sea's edge her CELL stays. */
        static int turned(int place, int turn) {
            int cell = cellOf(place), heading = headingOf(place + turn);
            int row = (cell >> 3) + ROWS_ON[heading & 7];
            int column = (cell & 7) + COLUMNS_ON[heading & 7];
            boolean within = row >= 0 && row < 8 && column >= 0 && column < 8;
            return (within ? row * 8 + column : cell) * HEADINGS + heading;
        }

        int moved(int place, int turn, int hour) {
            int next = turned(place, turn);
            if (isRock(cellOf(next)) || driftEvery <= 0 || (hour + 1) % driftEvery != 0) return next;
            int drifted = turned(cellOf(next) * HEADINGS + driftHeading, 0);
            return cellOf(drifted) * HEADINGS + headingOf(next);
        }
    }

    /** What IMAGES keep. */
    private static final class Held {
        final int[] ways = new int[MOST_SORTS];
        final int[] strengths = new int[MOST_SORTS];
        final int[] turns = new int[MOST_LOG];
        int logged;
        int seed;
        boolean kept;

        void allPlain() {
            Arrays.fill(ways, PLAIN);
            Arrays.fill(strengths, 0);
        }

        void setWay(int sort, int way, int strength) {
            if (outside(sort, 0, MOST_SORTS - 1)) return;
            ways[sort] = way;
            strengths[sort] = strength;
        }

        int wayOf(int sort) {
            return outside(sort, 0, MOST_SORTS - 1) ? PLAIN : ways[sort];
        }

        int strengthOf(int sort) {
            return outside(sort, 0, MOST_SORTS - 1) ? 0 : strengths[sort];
        }

        int blindSorts() {
            int set = 0;
            for (int s = 0; s < MOST_SORTS; s++) {
                if (ways[s] == BLIND) set |= 1 << s;
            }
            return set;
        }

        void write(int turn) {
            if (outside(logged, 0, MOST_LOG - 1)) return;
            turns[logged] = turn;
            logged++;
        }

        int turnAt(int hour) {
            return outside(hour, 0, MOST_LOG - 1) ? 0 : turns[hour];
        }

        void become(Held other) {
            for (int s = 0; s < MOST_SORTS; s++) {
                ways[s] = other.ways[s];
                strengths[s] = other.strengths[s];
            }
            for (int i = 0; i < MOST_LOG; i++) turns[i] = other.turns[i];
            logged = other.logged;
            seed = other.seed;
        }

        /** The DRAW of n. */
        int draw(int n) {
            seed = seed * 1103515245 + 12345 & 0x7fffffff;
            return n > 0 ? seed / 65536 % n : 0;
        }
    }

    /** What PERSONS press, added up. */
    private static final class Tally {
        int persons;
        int left;
        int right;
        int sum;
        int leftSorts;
        int rightSorts;
        /** The press of the PERSON whose turn it is; it is set by the one who adds. */
        int inTurn;

        void empty() {
            persons = 0;
            left = 0;
            right = 0;
            sum = 0;
            leftSorts = 0;
            rightSorts = 0;
            inTurn = 0;
        }

        void add(int sort, int press, int many) {
            persons += many;
            sum += press * many;
            if (press < 0) {
                left += many;
                leftSorts |= 1 << sort;
            } else if (press > 0) {
                right += many;
                rightSorts |= 1 << sort;
            }
        }

        int most() {
            int straight = persons - left - right;
            if (straight >= left && straight >= right) return 0;
            return left >= right ? -1 : 1;
        }

        int middle() {
            if (persons <= 0) return 0;
            int ahead = (persons - 1) / 2;
            if (left > ahead) return -1;
            return persons - right > ahead ? 0 : 1;
        }

        int mean() {
            int twice = 2 * persons;
            if (sum == 0 || twice <= 0) return 0;
            return Integer.signum((2 * sum + (sum > 0 ? persons : -persons)) / twice);
        }
    }

    private static final class Rule {
        int kind;
        int need;
        int bars;
        /** The side of 'unless', and how many CELLS it looks; 0: there is no 'unless'. */
        int side;
        int look;

        void read(Text text) {
            become(MOST, 0, 0);
            if (text.takes("most")) kind = MOST;
            else if (text.takes("middle")) kind = MIDDLE;
            else if (text.takes("mean")) kind = MEAN;
            else if (text.takes("turns")) kind = TURNS;
            else text.fail(Text.MISPLACED, text.at);
            if (text.takes("need")) need = text.number(0, 54);
            if (text.takes("bar")) readBars(text);
            if (text.takes("unless")) readUnless(text);
            if (!text.ended()) text.fail(Text.MISPLACED, text.at);
        }

        private void readBars(Text text) {
            boolean more = true;
            for (int n = 0; n <= MOST_SORTS && more; n++) {
                int sort = text.number(0, MOST_SORTS - 1);
                if (holds(bars, sort)) text.fail(Text.AGAIN, text.numberAt);
                bars |= 1 << sort;
                more = text.takes(',');
            }
        }

        private void readUnless(Text text) {
            if (text.takes("left")) side = -1;
            else if (text.takes("right")) side = 1;
            else text.fail(Text.MISPLACED, text.at);
            look = text.number(1, 7);
        }

        void become(Rule other) {
            kind = other.kind;
            need = other.need;
            bars = other.bars;
            side = other.side;
            look = other.look;
        }

        /** The short RULE of THE BEST RULE: without 'unless', left 1, right 1, left 2, right 2. */
        void become(int kind, int need, int unless) {
            this.kind = kind;
            this.need = need;
            bars = 0;
            side = unless == 0 ? 0 : unless % 2 == 1 ? -1 : 1;
            look = (unless + 1) / 2;
        }

        /** The TURN of 'unless' at a place; 0: it has none to say. */
        int dodge(Sea sea, int place) {
            int next = place;
            for (int i = 0; i < look; i++) {
                next = Sea.turned(next, 0);
                if (sea.isRock(cellOf(next))) return side;
            }
            return 0;
        }

        int decided(Tally tally) {
            int wanted;
            switch (kind) {
                case MOST: wanted = tally.most(); break;
                case MIDDLE: wanted = tally.middle(); break;
                case MEAN: wanted = tally.mean(); break;
                default: wanted = Integer.signum(tally.inTurn);
            }
            if (wanted == 0) return 0;
            int with = wanted < 0 ? tally.left : tally.right;
            int against = wanted < 0 ? tally.rightSorts : tally.leftSorts;
            return with < need || (against & bars) != 0 ? 0 : wanted;
        }
    }

    /** What each SORT presses at each place, worked out anew when THE SEA or a WAY is another. */
    private static final class Crew {
        final Sea sea;
        final Held held;
        boolean fresh;
        /** For each place, three bits a SORT: its press and 2. */
        final int[] packed = new int[PLACES];
        /** The greatest WORTH that is to come at each place in the HOURS looked ahead. */
        final int[] near = new int[PLACES];
        final int[] later = new int[PLACES];
        final Tally seeing = new Tally();

        Crew(Sea sea, Held held) {
            this.sea = sea;
            this.held = held;
        }

        int press(int sort, int place) {
            if (outside(place, 0, PLACES - 1) || !sea.isSort(sort)) return 0;
            return (packed[place] >> 3 * sort & 7) - 2;
        }

        void ready() {
            if (fresh) return;
            Arrays.fill(packed, 0);
            int blind = held.blindSorts();
            for (int s = 0; s < sea.sorts; s++) {
                if (held.wayOf(s) == AHEAD) lookAhead(s, held.strengthOf(s));
                if (!holds(blind, s)) workOut(s);
            }
            for (int place = 0; place < PLACES; place++) {
                int most = mostSeeing(place, blind);
                for (int s = 0; s < sea.sorts; s++) {
                    if (holds(blind, s)) write(s, place, most);
                }
            }
            fresh = true;
        }

        private void workOut(int sort) {
            int way = held.wayOf(sort), strength = held.strengthOf(sort);
            for (int place = 0; place < PLACES; place++) {
                int press = strength;
                if (way == PLAIN) press = nearest(sort, place);
                if (way == HARD) press = 2 * nearest(sort, place);
                if (way == AHEAD) press = wisest(sort, place, strength);
                write(sort, place, press);
            }
        }

        private void write(int sort, int place, int press) {
            if (!outside(place, 0, PLACES - 1)) packed[place] |= press + 2 << 3 * sort;
        }

        private int mostSeeing(int place, int blind) {
            seeing.empty();
            for (int s = 0; s < sea.sorts; s++) {
                if (!holds(blind, s)) seeing.add(s, press(s, place), sea.personsOf(s));
            }
            return seeing.most();
        }

        private int nearest(int sort, int place) {
            int goal = sea.goalOf(sort), best = 0, least = ROCK_DISTANCE + 1;
            if (goal == NONE) return 0;
            for (int turn : TURN_ORDER) {
                int cell = cellOf(Sea.turned(place, turn));
                int off = sea.isRock(cell) ? ROCK_DISTANCE : Sea.far(cell, goal);
                if (off < least) {
                    least = off;
                    best = turn;
                }
            }
            return best;
        }

        /** Leaves in the row what the HOURS behind the first one bring, at their best. */
        private void lookAhead(int sort, int hours) {
            Arrays.fill(later, 0);
            for (int h = 1; h < hours; h++) {
                for (int place = 0; place < PLACES; place++) {
                    near[place] = foreseen(sort, place, wisest(sort, place, h), h);
                }
                System.arraycopy(near, 0, later, 0, PLACES);
            }
        }

        private int wisest(int sort, int place, int hours) {
            int best = 0, greatest = LEAST;
            for (int turn : TURN_ORDER) {
                int sum = foreseen(sort, place, turn, hours);
                if (sum > greatest) {
                    greatest = sum;
                    best = turn;
                }
            }
            return best;
        }

        private int foreseen(int sort, int place, int turn, int hours) {
            int next = Sea.turned(place, turn);
            if (sea.isRock(cellOf(next)) || next < 0 || next >= PLACES) return LOSS * hours;
            return sea.worthTo(sort, cellOf(next)) + later[next];
        }
    }

    /** Which TURNS can be COUNTED at a place by a RULE, while a SET of SORTS presses as it likes, all of it alike. */
    private static final class Counting {
        final Sea sea;
        final Crew crew;
        Rule rule;
        int free;
        boolean any;
        /** For each place, three bits for each SORT whose turn it is: the TURNS; no bits: not worked out yet. */
        final int[] masks = new int[PLACES];
        final int[] row = new int[MOST_SORTS];
        final Tally tally = new Tally();

        Counting(Sea sea, Crew crew, Rule rule) {
            this.sea = sea;
            this.crew = crew;
            this.rule = rule;
        }

        void begin(Rule rule, int free) {
            this.rule = rule;
            this.free = free;
            any = false;
            Arrays.fill(masks, 0);
        }

        /** From now on she turns as she likes. */
        void beginAny() {
            any = true;
        }

        int options(int place, int hour) {
            if (any || outside(place, 0, PLACES - 1)) return ALL_TURNS;
            int inTurn = rule.kind == TURNS ? sea.sortInTurn(hour) : 0;
            int mask = masks[place] >> 3 * inTurn & 7;
            if (mask == 0) {
                mask = workOut(place, inTurn);
                masks[place] |= mask << 3 * inTurn;
            }
            return mask;
        }

        private int workOut(int place, int inTurn) {
            int dodge = rule.dodge(sea, place);
            if (dodge != 0) return 1 << dodge + 1;
            int blind = crew.held.blindSorts() & ~free;
            for (int s = 0; s < MOST_SORTS; s++) row[s] = crew.press(s, place);
            int mask = 0, hardest = hardestFree();
            for (int press = -hardest; press <= hardest && mask != ALL_TURNS; press++) {
                pressAlike(press);
                if (blind != 0) follow(blind);
                addUp(inTurn);
                mask |= 1 << rule.decided(tally) + 1;
            }
            return mask;
        }

        /** But for the mean, pressing harder changes nothing: signs are enough. */
        private int hardestFree() {
            if (free == 0) return 0;
            return rule.kind == MEAN ? 2 : 1;
        }

        /** All that are free press the same: the SET is one in what it presses. */
        private void pressAlike(int press) {
            for (int s = 0; s < MOST_SORTS; s++) {
                if (holds(free, s)) row[s] = press;
            }
        }

        private void follow(int blind) {
            tally.empty();
            for (int s = 0; s < MOST_SORTS; s++) {
                if (!holds(blind, s)) tally.add(s, row[s], sea.personsOf(s));
            }
            int most = tally.most();
            for (int s = 0; s < MOST_SORTS; s++) {
                if (holds(blind, s)) row[s] = most;
            }
        }

        private void addUp(int inTurn) {
            tally.empty();
            for (int s = 0; s < MOST_SORTS; s++) {
                if (sea.isSort(s)) tally.add(s, row[s], sea.personsOf(s));
                if (s == inTurn) tally.inTurn = row[s];
            }
        }
    }

    /** A RUN or a VOYAGE, HOUR by HOUR. */
    private static final class Journey {
        final Sea sea;
        final Crew crew;
        final Counting counting;
        final Held held;
        final Tally tally = new Tally();
        /** At each HOUR the place and, in the lowest four bits, what is late. */
        final int[] states = new int[LAST_HOUR + 1];
        final int[] done = new int[LAST_HOUR];
        int gone;
        boolean struck;
        /** Two bits a TURN, the next one to be done lowest; 0 when only straight TURNS are late. */
        int late;

        Journey(Sea sea, Crew crew, Counting counting, Held held) {
            this.sea = sea;
            this.crew = crew;
            this.counting = counting;
            this.held = held;
        }

        /** The counting must have begun with this RULE and no SORT free. */
        void sail(Rule rule, int from, int most, int q) {
            int place = from;
            late = 0;
            gone = 0;
            struck = false;
            states[0] = place << 4;
            for (int hour = 0; hour < most && hour < LAST_HOUR && !struck; hour++) {
                int dodge = rule.dodge(sea, place);
                int counted = q == NO_DRAWS ? onlyTurn(counting.options(place, hour)) : drawn(rule, place, hour, q);
                done[hour] = dodge != 0 ? delayed(0, dodge) : delayed(counted, 0);
                place = sea.moved(place, done[hour], hour);
                gone = hour + 1;
                states[gone] = place << 4 | late;
                struck = sea.isRock(cellOf(place));
            }
        }

        /** The TURN that is done now; with 'unless' what would have been done is lost. */
        private int delayed(int counted, int dodge) {
            if (sea.lag <= 0) return dodge != 0 ? dodge : counted;
            int due = late & 3;
            late = late >> 2 | (counted & 3) << 2 * (sea.lag - 1);
            if (dodge != 0) return dodge;
            return due == 3 ? -1 : due;
        }

        /** Every PERSON draws, 'unless' or not. */
        private int drawn(Rule rule, int place, int hour, int q) {
            int inTurn = sea.persons > 0 ? hour % sea.persons : 0;
            tally.empty();
            for (int s = 0; s < sea.sorts; s++) {
                for (int i = 0; i < sea.personsOf(s); i++) {
                    int press = held.draw(100) < q ? held.draw(3) - 1 : crew.press(s, place);
                    if (tally.persons == inTurn) tally.inTurn = press;
                    tally.add(s, press, 1);
                }
            }
            return rule.decided(tally);
        }

        int placeAt(int hour) {
            return outside(hour, 0, LAST_HOUR) ? 0 : states[hour] >> 4;
        }

        int turnAt(int hour) {
            return outside(hour, 0, LAST_HOUR - 1) ? 0 : done[hour];
        }

        int firstAt(int cell) {
            for (int hour = 0; hour <= gone; hour++) {
                if (cellOf(placeAt(hour)) == cell) return hour;
            }
            return NONE;
        }

        /** How many HOURS a round takes; 0: none. If she has come round at all, her last HOUR is in a round. */
        int hoursRound() {
            if (struck || gone > LAST_HOUR) return 0;
            int period = sea.period();
            for (int back = period; back <= gone; back += period) {
                if (states[gone - back] == states[gone]) return back;
            }
            return 0;
        }

        int firstRound(int between) {
            for (int hour = Math.max(0, between); hour <= gone && hour <= LAST_HOUR; hour++) {
                if (states[hour] == states[hour - Math.max(0, between)]) return hour;
            }
            return NONE;
        }

        /** WORTH OF A RUN of at least so many HOURS. */
        int worthTo(int set, int hours) {
            int sum = 0;
            for (int hour = 1; hour <= hours; hour++) {
                sum += hour <= gone ? sea.worthToSet(cellOf(placeAt(hour)), set) : LOSS * sea.personsIn(set);
            }
            return sum;
        }
    }

    /** The greatest WORTH that can be come by, where at each place the TURNS are open that the counting tells. */
    private static final class Courses {
        final Sea sea;
        final Counting counting;
        final int[] worth = new int[CELLS];
        /** For each place, the HOURS (bit for bit) at which she can be there. */
        final int[] reached = new int[PLACES];
        /** For each place, two bits an HOUR: the best TURN and 1. */
        final long[] chosen = new long[PLACES];
        final int[] now = new int[PLACES];
        final int[] later = new int[PLACES];

        Courses(Sea sea, Counting counting) {
            this.sea = sea;
            this.counting = counting;
        }

        int greatest(int set, int from, int hours) {
            if (outside(from, 0, PLACES - 1)) return 0;
            for (int c = 0; c < CELLS; c++) worth[c] = sea.worthToSet(c, set);
            Arrays.fill(reached, 0);
            reached[from] = 1;
            for (int hour = 0; hour < hours - 1; hour++) {
                for (int place = 0; place < PLACES; place++) {
                    if (holds(reached[place], hour)) reachFrom(place, hour, counting.options(place, hour));
                }
            }
            Arrays.fill(later, 0);
            Arrays.fill(chosen, 0);
            int loss = LOSS * sea.personsIn(set);
            for (int hour = hours - 1; hour >= 0; hour--) {
                for (int place = 0; place < PLACES; place++) {
                    if (!holds(reached[place], hour)) continue;
                    now[place] = choose(place, hour, loss * (hours - hour), counting.options(place, hour));
                }
                System.arraycopy(now, 0, later, 0, PLACES);
            }
            return later[from];
        }

        private void reachFrom(int place, int hour, int open) {
            for (int turn : TURN_ORDER) {
                if (!holds(open, turn + 1)) continue;
                int next = sea.moved(place, turn, hour);
                boolean afloat = !sea.isRock(cellOf(next)) && !outside(next, 0, PLACES - 1);
                if (afloat) reached[next] |= 2 << hour;
            }
        }

        private int choose(int place, int hour, int loss, int open) {
            int greatest = LEAST, best = 0;
            for (int turn : TURN_ORDER) {
                if (!holds(open, turn + 1)) continue;
                int next = sea.moved(place, turn, hour);
                boolean lost = sea.isRock(cellOf(next)) || outside(next, 0, PLACES - 1);
                int sum = lost ? loss : worth[cellOf(next)] + later[next];
                if (sum > greatest) {
                    greatest = sum;
                    best = turn;
                }
            }
            if (!outside(place, 0, PLACES - 1)) chosen[place] |= (long) (best + 1) << 2 * hour;
            return greatest;
        }

        /** TURN j of the course that was worked out last, unless she was STRUCK ahead of it. */
        int turnOf(int from, int j) {
            int place = from, turn = NO_SUCH_TURN;
            for (int hour = 0; hour <= j; hour++) {
                if (sea.isRock(cellOf(place)) || outside(place, 0, PLACES - 1)) return NO_SUCH_TURN;
                turn = (int) (chosen[place] >>> 2 * hour & 3) - 1;
                place = sea.moved(place, turn, hour);
            }
            return turn;
        }
    }
}
