/**
 * A ship of ten parts, those who made them and so must sail in her, and the sea.
 * The document ../shared/DOC.md says what each call does; its words are kept here.
 */
public final class WhoBuiltSails {
    public static final int NONE = -1, BAD = -2, STATE = -3, FULL = -4;
    public static final long NO = -4611686018427387904L;

    private static final int NOTHING = -11, OUTSIDE = -12, OTHER_SORT = -13, BELOW_ZERO = -14;
    private static final int NONE_SUCH = -1000, FAULTY = -100;

    private static final int PARTS = 10, WRIGHTS = 5, TEXTS = 6, TAPE = 160, SHEETS = 4, ITEMS = 40;
    private static final int LAST_DAY = 999, FULL_OF_WATER = 100, MOST = 99;
    private static final int MOST_NUMBER = 9, MOST_TOLD = 20, MOST_DAYS = 40;

    private static final int WRIGHT = 0, CAULKER = 1, BROTHER = 2, KNOT = 3, CAREFUL = 4, FIGUREHEAD = 5;
    private static final int KINDS = 6;
    /** The KIND that each KIND is under. */
    private static final int[] ABOVE = {NONE, WRIGHT, WRIGHT, CAULKER, BROTHER, WRIGHT};

    private static final int ASHORE = 0, ABOARD = 1, LOST = 2;
    private static final int BYTES = 0, SHORTS = 1, INTS = 2;

    /** The most that each of what set() sets may become. */
    private static final int[] MOST_OF = {LAST_DAY, MOST, FULL_OF_WATER, MOST, MOST_NUMBER, MOST};

    /** In how many numbers YARD tells of ways for 0, 1, 2, 3 PARTS. */
    private static final int[] WAYS = {1, 6, 36, 216};

    /** The three that a TEXT tells of. */
    private static final int OF_MAKES = 0, OF_MENDS = 1, OF_PUMPS = 2;

    /** NAMES ahead, then KEYS: the number of a word here is its TOKEN. */
    private static final String WORDS =
        "skill sound number day water part makes mends pumps or and not ";
    private static final int NAMES = 6;
    private static final int KEY_MAKES = 6, KEY_OR = 9, KEY_AND = 10, KEY_NOT = 11;
    /** TOKENS that are no words; a SIGN is its own byte, all of which are above these. */
    private static final int TOKEN_NUMBER = 12, TOKEN_END = 13, TOKEN_WRONG = 14;
    private static final int MOST_DIGITS = 4, MOST_OPEN = 5;

    /**
     * Steps of a TEXT: a number that is not below 0 stands for itself, -1 - i for name i,
     * and those below here join the two values that came last.
     */
    private static final int JOIN_OR = -7, JOIN_AND = -8, JOIN_LESS = -9, JOIN_SAME = -10;
    private static final int JOIN_PLUS = -11, JOIN_MINUS = -12, JOIN_TIMES = -13;
    /** A byte of THE TAPE makes two steps at most. */
    private static final int STEPS = 2 * TAPE;
    /** Five open brackets with five values waiting in each, and those within, stay far below. */
    private static final int WAITING = 64;

    /** What tells() is asked of. */
    private static final int ASKS_FIRST = 0, ASKS_KINDS = 1, ASKS_NUMBERS = 2, ASKS_SKILLS = 3;
    private static final int ASKS_LEAST_SKILL = 4, ASKS_SEAS = 5, ASKS_LEAST_SEA = 6;
    private static final int ASKS_TEXTS = 7, ASKS_PARTS = 8;

    private final Text[] texts;
    private int textCount;
    private final Reader tape;
    private final Ship ship;
    /** Where DAYS pass in thought: what is there is of no call but the one that runs. */
    private final Ship thought;
    private final Ship kept;
    private boolean isKept;
    private final Sheet[] sheets;

    public WhoBuiltSails() {
        texts = new Text[TEXTS];
        for (int i = 0; i < TEXTS; i++) {
            texts[i] = new Text(i);
        }
        textCount = 1;
        tape = new Reader();
        ship = new Ship(texts[0]);
        thought = new Ship(texts[0]);
        kept = new Ship(texts[0]);
        sheets = new Sheet[SHEETS];
        for (int i = 0; i < SHEETS; i++) {
            sheets[i] = new Sheet();
        }
    }

    // ---- the ship, the sea, wrights

    public int set(int what, int of, int v) {
        if (!within(what, 0, MOST_OF.length - 1) || !within(v, 0, MOST_OF[what])) {
            return BAD;
        }
        int was = told(of, what);
        if (was == NONE_SUCH) {
            return BAD;
        }
        switch (what) {
            case 0: ship.day = v; break;
            case 1: ship.sea = v; break;
            case 2: ship.water = v; break;
            case 3: ship.sound[of] = v; break;
            case 4: ship.number[of] = v; break;
            default: ship.skill[of] = v; break;
        }
        return was;
    }

    public int wright(int kind, int number, int skill) {
        if (!within(kind, 0, KINDS - 1) || !within(number, 0, MOST_NUMBER) || !within(skill, 0, MOST)) {
            return BAD;
        }
        return ship.comes(kind, number, skill);
    }

    public int told(int of, int what) {
        switch (what) {
            case 0: return ship.day;
            case 1: return ship.sea;
            case 2: return ship.water;
            case 3:
            case 10:
            case 11: return isPart(of) ? toldOfPart(of, what) : NONE_SUCH;
            default: return ship.has(of) ? toldOfWright(of, what) : NONE_SUCH;
        }
    }

    private int toldOfPart(int part, int what) {
        switch (what) {
            case 3: return ship.sound[part];
            case 10: return ship.maker[part];
            default: return ship.leaks(part);
        }
    }

    private int toldOfWright(int one, int what) {
        switch (what) {
            case 4: return ship.number[one];
            case 5: return ship.skill[one];
            case 6: return ship.kind[one];
            case 7: return ship.place[one];
            case 8: return ship.madeBy(one);
            case 9: return ship.pumps(one);
            default: return NONE_SUCH;
        }
    }

    public int asks(int one, int part, int what) {
        if (!ship.has(one) || !isPart(part) || !within(what, 0, 1)) {
            return BAD;
        }
        return what == 0 ? ship.makes(one, part) : ship.mends(one, part);
    }

    // ---- texts

    public int feed(int letter) {
        if (!within(letter, 0, 255)) {
            return BAD;
        }
        return tape.takes(letter) ? tape.size : FULL;
    }

    public int text() {
        if (!within(textCount, 0, TEXTS - 1)) {
            return FULL;
        }
        int fault = tape.reads(texts[textCount]);
        tape.size = 0;
        if (fault != NONE) {
            return FAULTY - fault;
        }
        textCount++;
        return textCount - 1;
    }

    public int force(int text) {
        if (!isText(text)) {
            return BAD;
        }
        int was = ship.rule.which;
        ship.rule = texts[text];
        return was;
    }

    // ---- the yard, days

    public int builds(int one, int part) {
        if (!ship.has(one) || !isPart(part)) {
            return BAD;
        }
        if (ship.place[one] != ASHORE) {
            return STATE;
        }
        ship.build(one, part);
        return ship.sound[part];
    }

    public int bound() {
        ship.bind();
        return ship.who(ABOARD);
    }

    public int home() {
        if (ship.isDown()) {
            return STATE;
        }
        int who = ship.who(ABOARD);
        ship.allMove(ABOARD, ASHORE);
        return who;
    }

    public int day() {
        if (ship.day >= LAST_DAY || ship.isDown()) {
            return STATE;
        }
        ship.passDay();
        return ship.water;
    }

    public int run(int n, int what) {
        if (!within(n, 0, MOST_DAYS) || !(within(what, 0, 2) || isPart(what - 10))) {
            return BAD;
        }
        thought.becomes(ship);
        thought.pass(n);
        switch (what) {
            case 0: return thought.water;
            case 1: return thought.who(LOST);
            case 2: return thought.allLeak();
            default: return thought.sound[what - 10];
        }
    }

    public int down() {
        thought.becomes(ship);
        for (int days = 0; days <= 60; days++) {
            if (thought.isDown()) {
                return days;
            }
            thought.passDay();
        }
        return NONE;
    }

    // ---- what would be best

    public int yard(int n, int what) {
        if (!within(n, 0, 20) || !within(what, 0, 1)) {
            return BAD;
        }
        int parts = ship.who(ASHORE) == 0 ? 0 : Math.min(3, PARTS - ship.partsMade());
        int best = 0;
        int least = FULL_OF_WATER + 1;
        // Numbers of ways grow as the ways come one behind the other, and none is better than dry.
        for (int way = 0; way < WAYS[parts] && least > 0; way++) {
            int water = waterBy(way, parts, n);
            if (water < least) {
                best = way;
                least = water;
            }
        }
        return what == 0 ? best : least;
    }

    /** WATER behind n DAYS by a way of YARD; more than there can be, if it is no way. */
    private int waterBy(int way, int parts, int n) {
        thought.becomes(ship);
        int part = NONE;
        for (int i = parts - 1; i >= 0; i--) {
            int one = way / WAYS[i] % (WRIGHTS + 1) - 1;
            part = thought.nextUnmade(part + 1);
            if (part == NONE || !thought.has(one) || thought.place[one] != ASHORE) {
                return FULL_OF_WATER + 1;
            }
            thought.build(one, part);
        }
        thought.bind();
        thought.pass(n);
        return thought.water;
    }

    public int stands(int n) {
        if (!within(n, 1, MOST_DAYS)) {
            return BAD;
        }
        for (int sea = MOST; sea >= 0; sea--) {
            thought.becomes(ship);
            thought.sea = sea;
            thought.pass(n);
            if (!thought.isDown()) {
                return sea;
            }
        }
        return NONE;
    }

    public int go(int n, int what) {
        if (!within(n, 0, MOST_DAYS) || !within(what, 0, 1)) {
            return BAD;
        }
        int best = NONE;
        int fewest = WRIGHTS + 1;
        for (int who = 0; who < 1 << ship.wrights; who++) {
            int howMany = Integer.bitCount(who);
            if (howMany < fewest && comesHomeWith(who, n)) {
                best = who;
                fewest = howMany;
            }
        }
        return what == 0 || best == NONE ? best : fewest;
    }

    private boolean comesHomeWith(int who, int n) {
        if ((who & ship.who(LOST)) != 0) {
            return false;
        }
        thought.becomes(ship);
        thought.allMove(ABOARD, ASHORE);
        for (int one = 0; one < thought.wrights; one++) {
            if ((who >> one & 1) == 1) {
                thought.place[one] = ABOARD;
            }
        }
        thought.pass(n);
        return !thought.isDown();
    }

    public int worst() {
        int worst = NONE;
        int most = 0;
        for (int part = 0; part < PARTS; part++) {
            int leak = ship.leaks(part);
            if (leak > most) {
                worst = part;
                most = leak;
            }
        }
        return worst;
    }

    public long mean(int part) {
        if (!within(part, 0, 1)) {
            return NO;
        }
        int all = 0;
        for (int i = 0; i < PARTS; i++) {
            all += ship.sound[i];
        }
        return lowestTerms(all, PARTS, part);
    }

    // ---- water that was told

    public int tells(int sheet, int one, int what) {
        if (!isSheet(sheet) || !ship.has(one) || !within(what, ASKS_FIRST, ASKS_PARTS)) {
            return BAD;
        }
        Sheet told = sheets[sheet];
        if (told.isMissing()) {
            return NOTHING;
        }
        if (told.size > MOST_TOLD) {
            return BAD;
        }
        switch (what) {
            case ASKS_FIRST: return firstOtherwise(told, one, ASKS_FIRST, 0);
            case ASKS_KINDS: return bitsThatFit(told, one, what, KINDS);
            case ASKS_NUMBERS: return bitsThatFit(told, one, what, MOST_NUMBER + 1);
            case ASKS_SKILLS:
            case ASKS_SEAS: return howManyFit(told, one, what);
            case ASKS_LEAST_SKILL: return leastThatFits(told, one, ASKS_SKILLS);
            case ASKS_LEAST_SEA: return leastThatFits(told, one, ASKS_SEAS);
            case ASKS_TEXTS: return bitsThatFit(told, one, what, textCount);
            default: return bitsThatFit(told, one, what, PARTS);
        }
    }

    /** The first that is otherwise, were what is asked of v (nothing: all being as it is). */
    private int firstOtherwise(Sheet told, int one, int what, int v) {
        thought.becomes(ship);
        switch (what) {
            case ASKS_KINDS: thought.kind[one] = v; break;
            case ASKS_NUMBERS: thought.number[one] = v; break;
            case ASKS_SKILLS: thought.skill[one] = v; break;
            case ASKS_SEAS: thought.sea = v; break;
            case ASKS_TEXTS: thought.rule = texts[v]; break;
            case ASKS_PARTS: thought.sound[v] = MOST; break;
            default: break;
        }
        for (int i = 0; i < told.size; i++) {
            thought.passDay();
            if (thought.water != told.items[i]) {
                return i;
            }
        }
        return NONE;
    }

    private int bitsThatFit(Sheet told, int one, int what, int size) {
        int bits = 0;
        for (int v = 0; v < size; v++) {
            if (firstOtherwise(told, one, what, v) == NONE) {
                bits |= 1 << v;
            }
        }
        return bits;
    }

    private int howManyFit(Sheet told, int one, int what) {
        int howMany = 0;
        for (int v = 0; v <= MOST; v++) {
            if (firstOtherwise(told, one, what, v) == NONE) {
                howMany++;
            }
        }
        return howMany;
    }

    private int leastThatFits(Sheet told, int one, int what) {
        for (int v = 0; v <= MOST; v++) {
            if (firstOtherwise(told, one, what, v) == NONE) {
                return v;
            }
        }
        return NONE;
    }

    public int film(int sheet, int n) {
        if (!isSheet(sheet) || !within(n, 0, MOST_TOLD)) {
            return BAD;
        }
        Sheet film = sheets[sheet];
        film.becomes(BYTES, n);
        thought.becomes(ship);
        for (int i = 0; i < n; i++) {
            thought.passDay();
            film.put(i, thought.water);
        }
        return n;
    }

    public int drawn(int seed, int n) {
        if (!within(n, 0, MOST_DAYS)) {
            return BAD;
        }
        return waterDrawn(seed, n);
    }

    private int waterDrawn(int seed, int n) {
        thought.becomes(ship);
        int z = seed;
        for (int i = 0; i < n; i++) {
            z = z * 1103515245 + 12345;
            thought.sea = (z >>> 9) % 100;
            thought.passDay();
        }
        return thought.water;
    }

    public long chance(int seed, int m, int part) {
        if (!within(m, 1, 20) || !within(part, 0, 1)) {
            return NO;
        }
        int downs = 0;
        for (int i = 0; i < m; i++) {
            if (waterDrawn(seed + i, 10) >= FULL_OF_WATER) {
                downs++;
            }
        }
        return lowestTerms(downs, m, part);
    }

    public int image() {
        kept.becomes(ship);
        isKept = true;
        return kept.wrights;
    }

    public int back() {
        if (!isKept) {
            return STATE;
        }
        ship.becomes(kept);
        return ship.wrights;
    }

    public int count(int what) {
        switch (what) {
            case 0: return ship.wrights;
            case 1: return ship.partsMade();
            case 2: return Integer.bitCount(ship.who(ABOARD));
            case 3: return textCount;
            case 4: return tape.size;
            case 5: return ship.rule.which;
            default: return BAD;
        }
    }

    // ---- the host

    public int sheet(int sheet, int sort, int n) {
        if (!isSheet(sheet) || !within(sort, NONE, INTS)) {
            return BAD;
        }
        if (sort == NONE) {
            sheets[sheet].becomes(NONE, 0);
            return 1;
        }
        if (n > ITEMS) {
            return BAD;
        }
        if (n < 0) {
            return BELOW_ZERO;
        }
        sheets[sheet].becomes(sort, n);
        return 1;
    }

    public int cell(int sheet, int i, int v) {
        if (!isSheet(sheet)) {
            return BAD;
        }
        Sheet row = sheets[sheet];
        if (row.isMissing()) {
            return NOTHING;
        }
        if (!row.holds(i, 1)) {
            return OUTSIDE;
        }
        row.put(i, v);
        return 1;
    }

    public int copy(int sheet, int i, int other, int j, int n) {
        if (!isSheet(sheet) || !isSheet(other)) {
            return BAD;
        }
        Sheet from = sheets[sheet];
        Sheet to = sheets[other];
        if (from.isMissing() || to.isMissing()) {
            return NOTHING;
        }
        if (from.sort != to.sort) {
            return OTHER_SORT;
        }
        if (!from.holds(i, n) || !to.holds(j, n)) {
            return OUTSIDE;
        }
        System.arraycopy(from.items, i, to.items, j, n);
        return n;
    }

    public int gang(int sheet, int sort, int from, int n) {
        if (!isSheet(sheet) || !within(sort, BYTES, INTS) || !within(n, 0, WRIGHTS)) {
            return BAD;
        }
        Sheet row = sheets[sheet];
        if (row.isMissing()) {
            return NOTHING;
        }
        if (row.sort != sort) {
            return OTHER_SORT;
        }
        int came = 0;
        int at = from;
        for (int i = 0; i < n; i++) {
            if (!row.holds(at, 3)) {
                return OUTSIDE;
            }
            if (wright(row.items[at], row.items[at + 1], row.items[at + 2]) >= 0) {
                came++;
            }
            at += 3;
        }
        return came;
    }

    public int taken(int one, int k) {
        if (!within(k, 0, KINDS - 1)) {
            return BAD;
        }
        if (!ship.has(one)) {
            return NOTHING;
        }
        int kind = ship.kind[one];
        for (int i = 0; i < KINDS && within(kind, 0, KINDS - 1); i++) {
            if (kind == k) {
                return ship.number[one];
            }
            kind = ABOVE[kind];
        }
        return OTHER_SORT;
    }

    // ---- what many calls look at

    private static boolean within(int v, int least, int most) {
        return v >= least && v <= most;
    }

    private static boolean isPart(int part) {
        return within(part, 0, PARTS - 1);
    }

    private static boolean isUnder(int part) {
        return part % 2 == 0;
    }

    private static boolean isSheet(int sheet) {
        return within(sheet, 0, SHEETS - 1);
    }

    private boolean isText(int text) {
        return within(text, 0, textCount - 1);
    }

    /** Above (part 0) or below the line (1) in lowest terms; below is 20 at most. */
    private static long lowestTerms(int above, int below, int part) {
        int by = 1;
        for (int i = 2; i <= below; i++) {
            if (above % i == 0 && below % i == 0) {
                by = i;
            }
        }
        return part == 0 ? above / by : below / by;
    }

    /** PARTS, WRIGHTS, DAY, SEA, WATER and THE RULE: all that a DAY changes or looks at. */
    private static final class Ship {
        final int[] maker = new int[PARTS];
        final int[] sound = new int[PARTS];
        int wrights;
        final int[] kind = new int[WRIGHTS];
        final int[] number = new int[WRIGHTS];
        final int[] skill = new int[WRIGHTS];
        final int[] place = new int[WRIGHTS];
        int day;
        int sea = 20;
        int water;
        Text rule;
        /** What NAMES stand for while a TEXT is asked. */
        private final int[] named = new int[NAMES];

        Ship(Text rule) {
            this.rule = rule;
            for (int part = 0; part < PARTS; part++) {
                maker[part] = NONE;
            }
        }

        void becomes(Ship other) {
            System.arraycopy(other.maker, 0, maker, 0, PARTS);
            System.arraycopy(other.sound, 0, sound, 0, PARTS);
            wrights = other.wrights;
            System.arraycopy(other.kind, 0, kind, 0, WRIGHTS);
            System.arraycopy(other.number, 0, number, 0, WRIGHTS);
            System.arraycopy(other.skill, 0, skill, 0, WRIGHTS);
            System.arraycopy(other.place, 0, place, 0, WRIGHTS);
            day = other.day;
            sea = other.sea;
            water = other.water;
            rule = other.rule;
        }

        boolean has(int one) {
            return within(one, 0, wrights - 1);
        }

        boolean isDown() {
            return water >= FULL_OF_WATER;
        }

        int comes(int itsKind, int itsNumber, int itsSkill) {
            if (!within(wrights, 0, WRIGHTS - 1)) {
                return FULL;
            }
            kind[wrights] = itsKind;
            number[wrights] = itsNumber;
            skill[wrights] = itsSkill;
            place[wrights] = ASHORE;
            wrights++;
            return wrights - 1;
        }

        /** Those who are at a place, as bits. */
        int who(int where) {
            int bits = 0;
            for (int one = 0; one < wrights; one++) {
                if (place[one] == where) {
                    bits |= 1 << one;
                }
            }
            return bits;
        }

        void allMove(int from, int to) {
            for (int one = 0; one < wrights; one++) {
                if (place[one] == from) {
                    place[one] = to;
                }
            }
        }

        /** PARTS MADE BY one, as bits. */
        int madeBy(int one) {
            int bits = 0;
            for (int part = 0; part < PARTS; part++) {
                if (maker[part] == one) {
                    bits |= 1 << part;
                }
            }
            return bits;
        }

        int partsMade() {
            return PARTS - Integer.bitCount(madeBy(NONE));
        }

        /** The first PART from one on that is MADE BY nobody; NONE. */
        int nextUnmade(int from) {
            for (int part = Math.max(0, from); part < PARTS; part++) {
                if (maker[part] == NONE) {
                    return part;
                }
            }
            return NONE;
        }

        /** The least SOUND of the PARTS MADE BY one; NONE: there are none. */
        private int leastSound(int one) {
            int least = NONE;
            int how = MOST + 1;
            for (int part = 0; part < PARTS; part++) {
                if (maker[part] == one && sound[part] < how) {
                    least = part;
                    how = sound[part];
                }
            }
            return least;
        }

        int leaks(int part) {
            int less = Math.max(0, sea - sound[part]);
            return isUnder(part) ? less : less / 2;
        }

        int allLeak() {
            int all = 0;
            for (int part = 0; part < PARTS; part++) {
                all += leaks(part);
            }
            return all;
        }

        /** What THE RULE tells, bounded ahead of what a KIND makes of it (and that is bounded anew). */
        private int telling(int of, int one, int part) {
            boolean isOfPart = isPart(part);
            named[0] = skill[one];
            named[1] = isOfPart ? sound[part] : 0;
            named[2] = number[one];
            named[3] = day;
            named[4] = water;
            named[5] = isOfPart ? part : 0;
            return bounded(rule.value(of, named));
        }

        int makes(int one, int part) {
            int wrightly = telling(OF_MAKES, one, part);
            int others = Integer.bitCount(madeBy(one) & ~(1 << part));
            int caulkerly = isUnder(part) ? wrightly + number[one] : wrightly;
            int brotherly = others == 0 ? wrightly / 2 : wrightly;
            switch (kind[one]) {
                case CAULKER: return bounded(caulkerly);
                case BROTHER: return bounded(brotherly);
                case KNOT: return bounded(caulkerly + others);
                case CAREFUL: return bounded(brotherly + 10);
                case FIGUREHEAD: return isUnder(part) ? 0 : MOST;
                default: return bounded(wrightly);
            }
        }

        int mends(int one, int part) {
            int wrightly = telling(OF_MENDS, one, part);
            int caulkerly = isUnder(part) ? wrightly * 2 : wrightly;
            switch (kind[one]) {
                case CAULKER: return bounded(caulkerly);
                case KNOT: return bounded(caulkerly + 1);
                case CAREFUL: return sound[part] >= 50 ? 0 : bounded(wrightly);
                case FIGUREHEAD: return 0;
                default: return bounded(wrightly);
            }
        }

        int pumps(int one) {
            int wrightly = telling(OF_PUMPS, one, NONE);
            int brotherly = wrightly + Integer.bitCount(who(ABOARD) & ~(1 << one));
            switch (kind[one]) {
                case CAULKER:
                case KNOT: return bounded(wrightly / 2);
                case BROTHER: return bounded(brotherly);
                case CAREFUL: return water >= 30 ? bounded(brotherly) : 0;
                case FIGUREHEAD: return number[one];
                default: return bounded(wrightly);
            }
        }

        /** Laid on what a TEXT tells and on what a KIND makes of it, never on what either is put together from. */
        private static int bounded(int v) {
            return Math.max(0, Math.min(MOST, v));
        }

        void build(int one, int part) {
            sound[part] = makes(one, part);
            maker[part] = one;
        }

        void bind() {
            for (int one = 0; one < wrights; one++) {
                if (place[one] == ASHORE && madeBy(one) != 0) {
                    place[one] = ABOARD;
                }
            }
        }

        void passDay() {
            if (!isDown()) {
                water = Math.min(FULL_OF_WATER, water + allLeak() / 10);
                for (int one = 0; one < wrights && !isDown(); one++) {
                    if (place[one] == ABOARD) {
                        water = Math.max(0, water - pumps(one));
                        int part = leastSound(one);
                        if (part != NONE) {
                            sound[part] = Math.min(MOST, sound[part] + mends(one, part));
                        }
                    }
                }
                if (isDown()) {
                    allMove(ABOARD, LOST);
                }
            }
            day++;
        }

        void pass(int n) {
            for (int i = 0; i < n; i++) {
                passDay();
            }
        }
    }

    /** What makes, mends and pumps tell, as steps with those that join behind what they join. */
    private static final class Text {
        final int which;
        private final int[] steps = new int[STEPS];
        /** Where each of the three ends. */
        private final int[] ends = new int[3];
        private int size;
        private final int[] waiting = new int[WAITING];

        /** As TEXT 0 is, till another is read. */
        Text(int which) {
            this.which = which;
            steps[0] = -1;
            steps[1] = 1;
            steps[2] = 3;
            ends[0] = 1;
            ends[1] = 2;
            ends[2] = 3;
            size = 3;
        }

        void clear() {
            size = 0;
        }

        void add(int step) {
            if (size < STEPS) {
                steps[size] = step;
                size++;
            }
        }

        void endHere(int of) {
            if (within(of, 0, ends.length - 1)) {
                ends[of] = size;
            }
        }

        int value(int of, int[] named) {
            if (!within(of, 0, ends.length - 1)) {
                return 0;
            }
            int top = 0;
            for (int i = of == 0 ? 0 : ends[of - 1]; i < ends[of] && i < STEPS; i++) {
                int step = steps[i];
                if (step <= JOIN_OR) {
                    if (top < 2) {
                        return 0;
                    }
                    top--;
                    waiting[top - 1] = joined(step, waiting[top - 1], waiting[top]);
                } else {
                    if (top >= WAITING || step < -named.length) {
                        return 0;
                    }
                    waiting[top] = step >= 0 ? step : named[-1 - step];
                    top++;
                }
            }
            return top == 1 ? waiting[0] : 0;
        }

        private static int joined(int step, int left, int right) {
            switch (step) {
                case JOIN_OR: return left != 0 || right != 0 ? 1 : 0;
                case JOIN_AND: return left != 0 && right != 0 ? 1 : 0;
                case JOIN_LESS: return left < right ? 1 : 0;
                case JOIN_SAME: return left == right ? 1 : 0;
                case JOIN_PLUS: return left + right;
                case JOIN_MINUS: return left - right;
                default: return left * right;
            }
        }
    }

    /** THE TAPE, and how a TEXT is read from it, TOKEN by TOKEN. */
    private static final class Reader {
        private final int[] bytes = new int[TAPE];
        int size;
        private int at;
        /** The TOKEN that is looked at, its first byte's place, and what it tells, if it is a NUMBER. */
        private int token;
        private int place;
        private int number;
        private int open;
        private int fault;
        private Text text;

        boolean takes(int letter) {
            if (size >= TAPE) {
                return false;
            }
            bytes[size] = letter;
            size++;
            return true;
        }

        /** The place of the FAULT; NONE. */
        int reads(Text into) {
            text = into;
            text.clear();
            at = 0;
            open = 0;
            fault = NONE;
            next();
            for (int of = OF_MAKES; of <= OF_PUMPS; of++) {
                needs(KEY_MAKES + of);
                readOr();
                needs(';');
                text.endHere(of);
            }
            if (token != TOKEN_END) {
                fails();
            }
            return fault;
        }

        /** From here on no TOKEN fits, so that reading comes to its end at once. */
        private void fails() {
            if (fault == NONE) {
                fault = place;
            }
            token = TOKEN_WRONG;
        }

        private void needs(int due) {
            if (token == due) {
                next();
            } else {
                fails();
            }
        }

        private void readOr() {
            readAnd();
            for (int i = 0; i < TAPE && token == KEY_OR; i++) {
                next();
                readAnd();
                text.add(JOIN_OR);
            }
        }

        private void readAnd() {
            readNot();
            for (int i = 0; i < TAPE && token == KEY_AND; i++) {
                next();
                readNot();
                text.add(JOIN_AND);
            }
        }

        private void readNot() {
            if (token != KEY_NOT) {
                readCompared();
            } else if (opens()) {
                readNot();
                text.add(0);
                text.add(JOIN_SAME);
                open--;
            }
        }

        private void readCompared() {
            readSum();
            if (token == '<' || token == '=') {
                int join = token == '<' ? JOIN_LESS : JOIN_SAME;
                next();
                readSum();
                text.add(join);
            }
        }

        private void readSum() {
            readTerm();
            for (int i = 0; i < TAPE && (token == '+' || token == '-'); i++) {
                int join = token == '+' ? JOIN_PLUS : JOIN_MINUS;
                next();
                readTerm();
                text.add(join);
            }
        }

        private void readTerm() {
            readOne();
            for (int i = 0; i < TAPE && token == '*'; i++) {
                next();
                readOne();
                text.add(JOIN_TIMES);
            }
        }

        private void readOne() {
            if (token == TOKEN_NUMBER) {
                text.add(number);
                next();
            } else if (within(token, 0, NAMES - 1)) {
                text.add(-1 - token);
                next();
            } else if (token == '-') {
                readMinus();
            } else if (token == '(') {
                readBracket();
            } else {
                fails();
            }
        }

        private void readMinus() {
            if (opens()) {
                text.add(0);
                readOne();
                text.add(JOIN_MINUS);
                open--;
            }
        }

        private void readBracket() {
            if (opens()) {
                readOr();
                needs(')');
                open--;
            }
        }

        /** Goes behind a ( , a not or a - that may be open now: a FAULT, if it may not. */
        private boolean opens() {
            if (open >= MOST_OPEN) {
                fails();
                return false;
            }
            open++;
            next();
            return true;
        }

        private void next() {
            while (at < size && (bytes[at] == 32 || bytes[at] == 10)) {
                at++;
            }
            place = at;
            if (at >= size) {
                token = TOKEN_END;
            } else if (within(bytes[at], 'a', 'z')) {
                nextWord();
            } else if (within(bytes[at], '0', '9')) {
                nextNumber();
            } else {
                token = isSign(bytes[at]) ? bytes[at] : TOKEN_WRONG;
                at++;
            }
        }

        private static boolean isSign(int letter) {
            return within(letter, '(', '+') || letter == '-' || within(letter, ';', '=');
        }

        private void nextNumber() {
            number = 0;
            while (at < size && within(bytes[at], '0', '9')) {
                if (at - place < MOST_DIGITS) {
                    number = number * 10 + bytes[at] - '0';
                }
                at++;
            }
            token = at - place > MOST_DIGITS ? TOKEN_WRONG : TOKEN_NUMBER;
        }

        private void nextWord() {
            while (at < size && within(bytes[at], 'a', 'z')) {
                at++;
            }
            token = TOKEN_WRONG;
            int word = 0;
            int i = place;
            boolean isSame = true;
            for (int j = 0; j < WORDS.length(); j++) {
                if (WORDS.charAt(j) != ' ') {
                    isSame = isSame && i < at && bytes[i] == WORDS.charAt(j);
                    i++;
                } else {
                    if (isSame && i == at) {
                        token = word;
                    }
                    word++;
                    i = place;
                    isSame = true;
                }
            }
        }
    }

    /** A row of numbers, or missing (of sort NONE). */
    private static final class Sheet {
        int sort = NONE;
        int size;
        final int[] items = new int[ITEMS];

        boolean isMissing() {
            return sort == NONE;
        }

        void becomes(int itsSort, int n) {
            sort = itsSort;
            size = Math.max(0, Math.min(ITEMS, n));
            for (int i = 0; i < ITEMS; i++) {
                items[i] = 0;
            }
        }

        /** Whether n items from one on are all inside. */
        boolean holds(int from, int n) {
            return within(n, 0, size) && within(from, 0, size - n);
        }

        void put(int i, int v) {
            if (holds(i, 1)) {
                items[i] = sort == BYTES ? (byte) v : sort == SHORTS ? (short) v : v;
            }
        }
    }
}
