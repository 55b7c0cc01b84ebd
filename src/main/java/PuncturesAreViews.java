/**
 * A road of twenty four places each of which brings a thought, and up to five riders on tyres
 * that go down where they think what the air in them won't bear.
 *
 * What each call answers, and what it refuses, stands in shared/DOC.md. All rows are made with
 * the object and used again: a call makes nothing.
 */
public final class PuncturesAreViews {
    public static final int NONE = -1, BAD = -2, STATE = -3, FULL = -4;
    public static final long NO = -4611686018427387904L;

    private static final int NOTHING = -11, OUTSIDE = -12, OTHER = -13, BELOW_ZERO = -14;
    private static final int FAULTS_FROM = -100;

    private static final int PLACES = 24, HOME = 23;
    private static final int MOST_RIDERS = 5, MOST_TEXTS = 6, MOST_BYTES = 160;
    private static final int MOST_DAY = 999, MOST_FLAT = 999, MOST_AIR = 99, MOST_DIGIT = 9, DIGITS = 10;
    private static final int MOST_RIDE = 60, MOST_STEPS = 240, MOST_TOLD = 30, MOST_SEEDS = 20;
    private static final int MOST_DEALT_TO = 3;

    /** How much each may be that set() lays: DAY, THOUGHT, NUMBER, PATCHES, AT, AIR. */
    private static final int[] MOST_OF = {MOST_DAY, MOST_DIGIT, MOST_DIGIT, MOST_DIGIT, HOME, MOST_AIR};

    private static final int RIDER = 0, CURATE = 1, DULL = 2, DOUBTER = 3, BOLD = 4, THINKER = 5, KINDS = 6;
    private static final int[] UNDER = {NONE, RIDER, RIDER, CURATE, DULL, RIDER};

    /** What became of a step. */
    private static final int STAYED = 0, WALKED = 1, PATCHED = 2, RODE = 3, PUNCTURED = 4;

    /** The parts of a text. */
    private static final int LETS = 0, HOLDS = 1, PUMPS = 2, PARTS = 3;

    /** The tokens of a text: the words by their order in WORDS, then the signs by theirs in SIGNS. */
    private static final String WORDS =
        "thought air     number  at      patches day     lets    holds   pumps   or      and     not     ";
    private static final int WORD_WIDTH = 8;
    private static final String SIGNS = "();+-*<=";
    private static final int WORD_THOUGHT = 0, WORD_AIR = 1, WORD_NUMBER = 2, WORD_AT = 3, WORD_PATCHES = 4,
        WORD_DAY = 5, WORD_LETS = 6, WORD_OR = 9, WORD_AND = 10, WORD_NOT = 11;
    private static final int SIGN_OPEN = 12, SIGN_CLOSE = 13, SIGN_END = 14, SIGN_PLUS = 15, SIGN_MINUS = 16,
        SIGN_TIMES = 17, SIGN_LESS = 18, SIGN_SAME = 19;
    private static final int TAPE_ENDS = 20, WRONG = 21, NEGATE = 22;

    /** A number is a token, too: itself and this more, so that no other is like it. */
    private static final int NUMBERS_FROM = 100;
    private static final int MOST_NUMBER_DIGITS = 4, MOST_OPEN = 5;

    private static final String FIRST_RULE = "lets thought * 7 ; holds 40 ; pumps 1 ;";

    private static final int SHEETS = 4, MOST_ITEMS = 40;
    private static final int MISSING = -1, BYTES = 0, SHORTS = 1, INTS = 2;

    /** What tells() is asked. */
    private static final int ASK_FIRST = 0, ASK_KINDS = 1, ASK_NUMBERS = 2, ASK_PATCHES = 3, ASK_AIRS = 4,
        ASK_LEAST_AIR = 5, ASK_TEXTS = 6, ASK_THOUGHTS = 10;

    private final Text[] texts = new Text[MOST_TEXTS];
    private final Tape tape = new Tape();
    private final TextReader reader;
    private int textCount;
    private final Road road;
    private final Crew crew = new Crew();
    private final Road keptRoad;
    private final Crew keptCrew = new Crew();
    private boolean imageKept;
    private final Sheet[] sheets = new Sheet[SHEETS];
    /** The road as it would be, a rider as one would be, and the one who rides in thought. */
    private final Road dream;
    private final Rider supposed = new Rider();
    private final Rider mind = new Rider();
    /** For WORST: how many are flat at each place. */
    private final int[] flats = new int[PLACES];
    /** For SPREAD: what each rider takes by each number of patches. */
    private final int[] dealt = new int[MOST_DEALT_TO * DIGITS];

    public PuncturesAreViews() {
        for (int i = 0; i < texts.length; i++) {
            texts[i] = new Text(i);
        }
        for (int i = 0; i < sheets.length; i++) {
            sheets[i] = new Sheet();
        }
        reader = new TextReader(tape, texts[0]);
        for (int i = 0; i < FIRST_RULE.length(); i++) {
            tape.add(FIRST_RULE.charAt(i));
        }
        reader.read(texts[0]);
        tape.size = 0;
        textCount = 1;
        road = new Road(texts[0]);
        keptRoad = new Road(texts[0]);
        dream = new Road(texts[0]);
    }

    // ---- the road, riders

    public int set(int what, int of, int v) {
        if (what < 0 || what >= MOST_OF.length || v < 0 || v > MOST_OF[what]) {
            return BAD;
        }
        int was = told(of, what);
        if (was != BAD) {
            lay(what, of, v);
        }
        return was;
    }

    public int rider(int kind, int number, int patches) {
        if (kind < 0 || kind >= KINDS || !isDigit(number) || !isDigit(patches)) {
            return BAD;
        }
        return crew.admit(kind, number, patches);
    }

    public int told(int of, int what) {
        if (what == 0) {
            return road.day;
        }
        if (what == 1) {
            return of >= 0 && of < PLACES ? road.thoughtAt(of) : BAD;
        }
        Rider one = crew.seat(of);
        if (one == null) {
            return BAD;
        }
        switch (what) {
            case 2:
                return one.number;
            case 3:
                return one.patches;
            case 4:
                return one.at;
            case 5:
                return one.air;
            case 6:
                return one.kind;
            case 7:
                return one.flat;
            case 8:
                return one.letsOut(road);
            case 9:
                return one.holdsBehindPatch(road);
            case 10:
                return one.pumpsIn(road);
            default:
                return BAD;
        }
    }

    private static boolean isDigit(int v) {
        return v >= 0 && v <= MOST_DIGIT;
    }

    private void lay(int what, int of, int v) {
        if (what == 0) {
            road.day = v;
            return;
        }
        if (what == 1) {
            road.bring(of, v);
            return;
        }
        Rider one = crew.seat(of);
        if (one == null) {
            return;
        }
        switch (what) {
            case 2:
                one.number = v;
                break;
            case 3:
                one.patches = v;
                break;
            case 4:
                one.at = v;
                break;
            case 5:
                one.air = v;
                break;
            default:
                break;
        }
    }

    // ---- texts

    public int feed(int letter) {
        if (letter < 0 || letter > 255) {
            return BAD;
        }
        return tape.add(letter) ? tape.size : FULL;
    }

    public int text() {
        if (textCount >= texts.length) {
            return FULL;
        }
        int fault = reader.read(texts[textCount]);
        tape.size = 0;
        if (fault != NONE) {
            return FAULTS_FROM - fault;
        }
        textCount++;
        return textCount - 1;
    }

    public int force(int text) {
        Text rule = textOf(text);
        if (rule == null) {
            return BAD;
        }
        int was = road.rule.number;
        road.rule = rule;
        return was;
    }

    private Text textOf(int text) {
        return text >= 0 && text < textCount && text < texts.length ? texts[text] : null;
    }

    // ---- steps

    public int step(int rider) {
        Rider one = crew.seat(rider);
        if (one == null) {
            return BAD;
        }
        if (one.isHome()) {
            return STATE;
        }
        one.goOn(road);
        return one.air;
    }

    public int day(int n) {
        if (n < 0 || n > MOST_RIDE) {
            return BAD;
        }
        if (road.day >= MOST_DAY) {
            return STATE;
        }
        crew.rideAll(n, road);
        road.day++;
        return crew.homes();
    }

    public int run(int rider, int n, int what) {
        Rider one = crew.seat(rider);
        if (one == null || n < 0 || n > MOST_RIDE) {
            return BAD;
        }
        mind.become(one);
        int flat = 0;
        int walked = 0;
        for (int i = 0; i < n; i++) {
            int did = mind.goOn(road);
            if (did == PUNCTURED) {
                flat++;
            }
            if (did == WALKED) {
                walked++;
            }
        }
        switch (what) {
            case 0:
                return mind.at;
            case 1:
                return mind.air;
            case 2:
                return mind.patches;
            case 3:
                return flat;
            case 4:
                return walked;
            default:
                return BAD;
        }
    }

    public int takes(int rider) {
        Rider one = crew.seat(rider);
        return one == null ? BAD : stepsHome(one, road);
    }

    private int stepsHome(Rider one, Road on) {
        mind.become(one);
        int steps = 0;
        while (steps < MOST_STEPS && !mind.isHome()) {
            mind.goOn(on);
            steps++;
        }
        return steps;
    }

    // ---- what would be best

    public int fewest(int rider) {
        Rider one = crew.seat(rider);
        if (one == null) {
            return BAD;
        }
        supposed.become(one);
        for (int patches = 0; patches <= MOST_DIGIT; patches++) {
            supposed.patches = patches;
            if (!walksHome(supposed)) {
                return patches;
            }
        }
        return NONE;
    }

    private boolean walksHome(Rider one) {
        mind.become(one);
        for (int i = 0; i < MOST_STEPS && !mind.isHome(); i++) {
            if (mind.goOn(road) == WALKED) {
                return true;
            }
        }
        return false;
    }

    public int ease(int rider, int what) {
        Rider one = crew.seat(rider);
        if (one == null || what < 0 || what > 1) {
            return BAD;
        }
        int best = NONE;
        int least = stepsHome(one, road);
        dream.become(road);
        for (int place = 0; place < PLACES; place++) {
            dream.bring(place, 0);
            int steps = stepsHome(one, dream);
            dream.bring(place, road.thoughtAt(place));
            if (steps < least) {
                least = steps;
                best = place;
            }
        }
        return what == 0 ? best : least;
    }

    public int change(int rider, int what) {
        Rider one = crew.seat(rider);
        if (one == null || what < 0 || what > 1) {
            return BAD;
        }
        int best = NONE;
        int least = stepsHome(one, road);
        dream.become(road);
        for (int i = 0; i < PLACES; i++) {
            for (int j = i + 1; j < PLACES; j++) {
                // like thoughts changed are as they were, and so not fewer
                if (road.thoughtAt(i) == road.thoughtAt(j)) {
                    continue;
                }
                int steps = stepsHomeChanged(one, i, j);
                if (steps < least) {
                    least = steps;
                    best = 100 * i + j;
                }
            }
        }
        return what == 0 ? best : least;
    }

    /** Goes by the dream, which is the road ahead of this and behind it. */
    private int stepsHomeChanged(Rider one, int i, int j) {
        dream.bring(i, road.thoughtAt(j));
        dream.bring(j, road.thoughtAt(i));
        int steps = stepsHome(one, dream);
        dream.bring(i, road.thoughtAt(i));
        dream.bring(j, road.thoughtAt(j));
        return steps;
    }

    public int bears(int rider, int on) {
        Rider one = crew.seat(rider);
        if (one == null || on < 0 || on >= PLACES) {
            return BAD;
        }
        if (on <= one.at) {
            return NONE;
        }
        dream.become(road);
        for (int thought = MOST_DIGIT; thought >= 0; thought--) {
            dream.bring(on, thought);
            if (!comesFlat(one, on, dream)) {
                return thought;
            }
        }
        return NONE;
    }

    private boolean comesFlat(Rider one, int to, Road on) {
        mind.become(one);
        int did = STAYED;
        for (int i = 0; i < MOST_STEPS && mind.at < to; i++) {
            did = mind.goOn(on);
        }
        return did == PUNCTURED;
    }

    public int all(int what) {
        switch (what) {
            case 0:
                return firstHome();
            case 1: {
                Rider first = crew.seat(firstHome());
                return first == null ? NONE : stepsHome(first, road);
            }
            case 2:
                return worstPlace();
            case 3: {
                int worst = worstPlace();
                return worst < 0 || worst >= flats.length ? 0 : flats[worst];
            }
            case 4:
                return stepsOfAll();
            default:
                return BAD;
        }
    }

    private int firstHome() {
        int first = NONE;
        int least = MOST_STEPS + 1;
        for (int i = 0; i < crew.count && i < MOST_RIDERS; i++) {
            int steps = stepsHome(crew.seats[i], road);
            if (steps < least) {
                least = steps;
                first = i;
            }
        }
        return first;
    }

    private int stepsOfAll() {
        int steps = 0;
        for (int i = 0; i < crew.count && i < MOST_RIDERS; i++) {
            steps += stepsHome(crew.seats[i], road);
        }
        return steps;
    }

    /** Leaves in flats how many are flat at each place. */
    private int worstPlace() {
        for (int place = 0; place < flats.length; place++) {
            flats[place] = 0;
        }
        for (int i = 0; i < crew.count && i < MOST_RIDERS; i++) {
            addFlats(crew.seats[i]);
        }
        int worst = NONE;
        int most = 0;
        for (int place = 0; place < flats.length; place++) {
            if (flats[place] > most) {
                most = flats[place];
                worst = place;
            }
        }
        return worst;
    }

    private void addFlats(Rider one) {
        mind.become(one);
        for (int i = 0; i < MOST_STEPS && !mind.isHome(); i++) {
            if (mind.goOn(road) == PUNCTURED && mind.at >= 0 && mind.at < flats.length) {
                flats[mind.at]++;
            }
        }
    }

    public int spread(int what) {
        if (what < 0 || what > 1) {
            return BAD;
        }
        if (crew.count > MOST_DEALT_TO) {
            return STATE;
        }
        int deals = 1;
        for (int i = 0; i < crew.count && i < MOST_DEALT_TO; i++) {
            tryPatches(i);
            deals *= DIGITS;
        }
        int patches = crew.patches();
        int best = 0;
        int least = MOST_DEALT_TO * MOST_STEPS + 1;
        for (int deal = 0; deal < deals; deal++) {
            if (digitSum(deal) == patches && stepsDealt(deal) < least) {
                least = stepsDealt(deal);
                best = deal;
            }
        }
        return what == 0 ? best : least;
    }

    /** Leaves in dealt what rider i takes by each number of patches. */
    private void tryPatches(int i) {
        Rider one = crew.seat(i);
        if (one == null) {
            return;
        }
        supposed.become(one);
        for (int patches = 0; patches < DIGITS; patches++) {
            supposed.patches = patches;
            int place = i * DIGITS + patches;
            if (place >= 0 && place < dealt.length) {
                dealt[place] = stepsHome(supposed, road);
            }
        }
    }

    private static int digitSum(int deal) {
        int sum = 0;
        int rest = deal;
        for (int i = 0; i < MOST_DEALT_TO; i++) {
            sum += rest % DIGITS;
            rest /= DIGITS;
        }
        return sum;
    }

    /** The last digit of a deal is the last rider's. */
    private int stepsDealt(int deal) {
        int steps = 0;
        int rest = deal;
        for (int i = crew.count - 1; i >= 0; i--) {
            int place = i * DIGITS + rest % DIGITS;
            if (place >= 0 && place < dealt.length) {
                steps += dealt[place];
            }
            rest /= DIGITS;
        }
        return steps;
    }

    // ---- tyres that were told

    public int tells(int sheet, int rider, int what) {
        Sheet row = sheetOf(sheet);
        Rider one = crew.seat(rider);
        if (row == null || one == null || !isAsked(what)) {
            return BAD;
        }
        if (row.sort == MISSING) {
            return NOTHING;
        }
        if (row.size > MOST_TOLD) {
            return BAD;
        }
        supposed.become(one);
        dream.become(road);
        if (what == ASK_FIRST) {
            return firstOtherwise(row);
        }
        if (what == ASK_AIRS || what == ASK_LEAST_AIR) {
            return airsAsTold(row, what);
        }
        return bitsAsTold(row, what);
    }

    private static boolean isAsked(int what) {
        return what >= ASK_FIRST && what <= ASK_TEXTS || what >= ASK_THOUGHTS && what < ASK_THOUGHTS + PLACES;
    }

    /** Goes by the one supposed and by the dream. */
    private int firstOtherwise(Sheet row) {
        mind.become(supposed);
        for (int i = 0; i < row.size; i++) {
            mind.goOn(dream);
            if (mind.air != row.item(i)) {
                return i;
            }
        }
        return NONE;
    }

    private int airsAsTold(Sheet row, int what) {
        int many = 0;
        int least = NONE;
        for (int air = MOST_AIR; air >= 0; air--) {
            supposed.air = air;
            if (firstOtherwise(row) == NONE) {
                many++;
                least = air;
            }
        }
        return what == ASK_AIRS ? many : least;
    }

    private int bitsAsTold(Sheet row, int what) {
        int choices = what == ASK_KINDS ? KINDS : what == ASK_TEXTS ? textCount : DIGITS;
        int bits = 0;
        for (int choice = 0; choice < choices; choice++) {
            suppose(what, choice);
            if (firstOtherwise(row) == NONE) {
                bits |= 1 << choice;
            }
        }
        return bits;
    }

    private void suppose(int what, int choice) {
        switch (what) {
            case ASK_KINDS:
                supposed.kind = choice;
                break;
            case ASK_NUMBERS:
                supposed.number = choice;
                break;
            case ASK_PATCHES:
                supposed.patches = choice;
                break;
            case ASK_TEXTS: {
                Text rule = textOf(choice);
                if (rule != null) {
                    dream.rule = rule;
                }
                break;
            }
            default:
                dream.bring(what - ASK_THOUGHTS, choice);
                break;
        }
    }

    public int film(int sheet, int rider, int n) {
        Sheet row = sheetOf(sheet);
        Rider one = crew.seat(rider);
        if (row == null || one == null || n < 0 || n > MOST_TOLD) {
            return BAD;
        }
        row.become(BYTES, n);
        mind.become(one);
        for (int i = 0; i < n; i++) {
            mind.goOn(road);
            row.put(i, mind.air);
        }
        return n;
    }

    public int drawn(int seed, int rider) {
        Rider one = crew.seat(rider);
        return one == null ? BAD : stepsHomeDrawn(seed, one);
    }

    private int stepsHomeDrawn(int seed, Rider one) {
        dream.become(road);
        dream.draw(seed);
        return stepsHome(one, dream);
    }

    public long chance(int seed, int m, int rider, int k, int part) {
        Rider one = crew.seat(rider);
        if (one == null || m < 1 || m > MOST_SEEDS || k < 0 || k > MOST_STEPS || part < 0 || part > 1) {
            return NO;
        }
        int good = 0;
        for (int i = 0; i < m; i++) {
            if (stepsHomeDrawn(seed + i, one) <= k) {
                good++;
            }
        }
        return inLowestTerms(good, m, part);
    }

    private static int inLowestTerms(int good, int m, int part) {
        int asked = part == 0 ? good : m;
        for (int d = m; d > 1; d--) {
            if (good % d == 0 && m % d == 0) {
                return asked / d;
            }
        }
        return asked;
    }

    public int image() {
        keptRoad.become(road);
        keptCrew.become(crew);
        imageKept = true;
        return crew.count;
    }

    public int back() {
        if (!imageKept) {
            return STATE;
        }
        road.become(keptRoad);
        crew.become(keptCrew);
        return crew.count;
    }

    public int count(int what) {
        switch (what) {
            case 0:
                return crew.count;
            case 1:
                return crew.homes();
            case 2:
                return crew.patches();
            case 3:
                return textCount;
            case 4:
                return tape.size;
            case 5:
                return road.rule.number;
            default:
                return BAD;
        }
    }

    // ---- the host

    public int sheet(int sheet, int sort, int n) {
        Sheet row = sheetOf(sheet);
        if (row == null || sort < MISSING || sort > INTS) {
            return BAD;
        }
        if (sort == MISSING) {
            row.become(MISSING, 0);
            return 1;
        }
        if (n > MOST_ITEMS) {
            return BAD;
        }
        if (n < 0) {
            return BELOW_ZERO;
        }
        row.become(sort, n);
        return 1;
    }

    public int cell(int sheet, int i, int v) {
        Sheet row = sheetOf(sheet);
        if (row == null) {
            return BAD;
        }
        if (row.sort == MISSING) {
            return NOTHING;
        }
        if (!row.has(i, 1)) {
            return OUTSIDE;
        }
        row.put(i, v);
        return 1;
    }

    public int copy(int sheet, int i, int other, int j, int n) {
        Sheet from = sheetOf(sheet);
        Sheet to = sheetOf(other);
        if (from == null || to == null) {
            return BAD;
        }
        if (from.sort == MISSING || to.sort == MISSING) {
            return NOTHING;
        }
        if (from.sort != to.sort) {
            return OTHER;
        }
        if (!from.has(i, n) || !to.has(j, n)) {
            return OUTSIDE;
        }
        System.arraycopy(from.items, i, to.items, j, n);
        return n;
    }

    public int riders(int sheet, int sort, int from, int n) {
        Sheet row = sheetOf(sheet);
        if (row == null || sort < BYTES || sort > INTS || n < 0 || n > MOST_RIDERS) {
            return BAD;
        }
        if (row.sort == MISSING) {
            return NOTHING;
        }
        if (row.sort != sort) {
            return OTHER;
        }
        int came = 0;
        for (int k = 0; k < n; k++) {
            int first = from + 3 * k;
            if (!row.has(first, 3)) {
                return OUTSIDE;
            }
            if (rider(row.item(first), row.item(first + 1), row.item(first + 2)) >= 0) {
                came++;
            }
        }
        return came;
    }

    public int taken(int rider, int k) {
        if (k < 0 || k >= KINDS) {
            return BAD;
        }
        Rider one = crew.seat(rider);
        if (one == null) {
            return NOTHING;
        }
        return isUnder(one.kind, k) ? one.number : OTHER;
    }

    private static boolean isUnder(int kind, int above) {
        int next = kind;
        for (int i = 0; i < KINDS && next >= 0 && next < UNDER.length; i++) {
            if (next == above) {
                return true;
            }
            next = UNDER[next];
        }
        return false;
    }

    private Sheet sheetOf(int sheet) {
        return sheet >= 0 && sheet < sheets.length ? sheets[sheet] : null;
    }

    /** What is about the riders: the thoughts, the day, the rule. */
    private static final class Road {
        private final int[] thoughts = new int[PLACES];
        private int day;
        private Text rule;

        private Road(Text rule) {
            this.rule = rule;
        }

        private int thoughtAt(int place) {
            return place >= 0 && place < thoughts.length ? thoughts[place] : 0;
        }

        private void bring(int place, int thought) {
            if (place >= 0 && place < thoughts.length) {
                thoughts[place] = thought;
            }
        }

        private void draw(int seed) {
            int z = seed;
            for (int place = 0; place < thoughts.length; place++) {
                z = z * 1103515245 + 12345;
                thoughts[place] = (z >>> 9) % DIGITS;
            }
        }

        private void become(Road other) {
            System.arraycopy(other.thoughts, 0, thoughts, 0, PLACES);
            day = other.day;
            rule = other.rule;
        }
    }

    private static final class Rider {
        private int kind;
        private int number;
        private int patches;
        private int at;
        private int air;
        private int flat;

        private void come(int kind, int number, int patches) {
            this.kind = kind;
            this.number = number;
            this.patches = patches;
            at = 0;
            air = MOST_AIR;
            flat = 0;
        }

        private void become(Rider other) {
            kind = other.kind;
            number = other.number;
            patches = other.patches;
            at = other.at;
            air = other.air;
            flat = other.flat;
        }

        private boolean isHome() {
            return at >= HOME;
        }

        /** A step: which of those that can be it was. */
        private int goOn(Road road) {
            if (isHome()) {
                return STAYED;
            }
            if (air == 0 && patches == 0) {
                at++;
                return WALKED;
            }
            if (air == 0) {
                air = holdsBehindPatch(road);
                patches--;
                return PATCHED;
            }
            at++;
            int in = pumpsIn(road);
            int out = letsOut(road);
            air = Math.max(Math.min(air + in, MOST_AIR) - out, 0);
            if (air > 0) {
                return RODE;
            }
            flat = Math.min(flat + 1, MOST_FLAT);
            return PUNCTURED;
        }

        // What a kind is told by, another kind's, has no bounds: they are laid on what comes out.

        private int letsOut(Road road) {
            int v = road.rule.value(LETS, this, road);
            int out = v;
            switch (kind) {
                case CURATE:
                    out = curateLets(v);
                    break;
                case DULL:
                    out = v / 2;
                    break;
                case DOUBTER:
                    out = curateLets(v) + number;
                    break;
                case BOLD:
                    out = road.thoughtAt(at) < 4 ? 0 : v / 2;
                    break;
                case THINKER:
                    out = 0;
                    break;
                default:
                    break;
            }
            return Math.max(0, Math.min(out, MOST_AIR));
        }

        private int curateLets(int v) {
            return at % 5 == number % 5 ? 2 * v : v;
        }

        private int holdsBehindPatch(Road road) {
            int v = road.rule.value(HOLDS, this, road);
            int held = v;
            switch (kind) {
                case CURATE:
                    held = v - 10;
                    break;
                case DOUBTER:
                    held = (v - 10) / 2;
                    break;
                case BOLD:
                    held = v + 5;
                    break;
                case THINKER:
                    held = 1;
                    break;
                default:
                    break;
            }
            return Math.max(1, Math.min(held, MOST_AIR));
        }

        private int pumpsIn(Road road) {
            int v = road.rule.value(PUMPS, this, road);
            int in = v;
            switch (kind) {
                case DULL:
                case BOLD:
                    in = v + 1;
                    break;
                case DOUBTER:
                    in = road.day % 2 == 1 ? 0 : v;
                    break;
                case THINKER:
                    in = number;
                    break;
                default:
                    break;
            }
            return Math.max(0, Math.min(in, MOST_AIR));
        }
    }

    /** The riders, in the order in which they came. */
    private static final class Crew {
        private final Rider[] seats = new Rider[MOST_RIDERS];
        private int count;

        private Crew() {
            for (int i = 0; i < seats.length; i++) {
                seats[i] = new Rider();
            }
        }

        private Rider seat(int i) {
            return i >= 0 && i < count && i < seats.length ? seats[i] : null;
        }

        private int admit(int kind, int number, int patches) {
            if (count >= seats.length) {
                return FULL;
            }
            seats[count].come(kind, number, patches);
            count++;
            return count - 1;
        }

        private void become(Crew other) {
            for (int i = 0; i < seats.length; i++) {
                seats[i].become(other.seats[i]);
            }
            count = other.count;
        }

        private void rideAll(int n, Road road) {
            for (int i = 0; i < count && i < seats.length; i++) {
                for (int k = 0; k < n; k++) {
                    seats[i].goOn(road);
                }
            }
        }

        private int homes() {
            int homes = 0;
            for (int i = 0; i < count && i < seats.length; i++) {
                if (seats[i].isHome()) {
                    homes++;
                }
            }
            return homes;
        }

        private int patches() {
            int patches = 0;
            for (int i = 0; i < count && i < seats.length; i++) {
                patches += seats[i].patches;
            }
            return patches;
        }
    }

    private static final class Tape {
        private final int[] bytes = new int[MOST_BYTES];
        private int size;

        private boolean add(int letter) {
            if (size >= bytes.length) {
                return false;
            }
            bytes[size] = letter;
            size++;
            return true;
        }

        /** NONE where the tape has no byte. */
        private int byteAt(int i) {
            return i >= 0 && i < size && i < bytes.length ? bytes[i] : NONE;
        }
    }

    /** A text, as tokens in the order in which they are worked off: each sign behind what it joins. */
    private static final class Text {
        private final int number;
        private final int[] code = new int[MOST_BYTES];
        private final int[] stack = new int[MOST_BYTES];
        /** Where the code of each part ends. */
        private final int[] ends = new int[PARTS];
        private int size;

        private Text(int number) {
            this.number = number;
        }

        private void clear() {
            size = 0;
        }

        private void add(int token) {
            if (size < code.length) {
                code[size] = token;
                size++;
            }
        }

        private void endPart(int part) {
            if (part >= 0 && part < ends.length) {
                ends[part] = size;
            }
        }

        /** What a part tells of a rider, with its bounds. */
        private int value(int part, Rider one, Road road) {
            if (part < 0 || part >= ends.length) {
                return 0;
            }
            int thought = road.thoughtAt(one.at);
            int top = 0;
            for (int i = part == 0 ? 0 : ends[part - 1]; i < ends[part] && i < code.length; i++) {
                int token = code[i];
                if (token >= NUMBERS_FROM || token <= WORD_DAY) {
                    if (top < stack.length) {
                        stack[top] = named(token, thought, one, road);
                        top++;
                    }
                } else if (token == WORD_NOT || token == NEGATE) {
                    if (top >= 1) {
                        stack[top - 1] = turned(token, stack[top - 1]);
                    }
                } else if (top >= 2) {
                    top--;
                    stack[top - 1] = joined(token, stack[top - 1], stack[top]);
                }
            }
            return top < 1 ? 0 : Math.max(0, Math.min(stack[0], MOST_AIR));
        }

        private static int named(int token, int thought, Rider one, Road road) {
            switch (token) {
                case WORD_THOUGHT:
                    return thought;
                case WORD_AIR:
                    return one.air;
                case WORD_NUMBER:
                    return one.number;
                case WORD_AT:
                    return one.at;
                case WORD_PATCHES:
                    return one.patches;
                case WORD_DAY:
                    return road.day;
                default:
                    return token - NUMBERS_FROM;
            }
        }

        private static int turned(int token, int v) {
            if (token == NEGATE) {
                return -v;
            }
            return v == 0 ? 1 : 0;
        }

        private static int joined(int token, int left, int right) {
            switch (token) {
                case WORD_OR:
                    return left != 0 || right != 0 ? 1 : 0;
                case WORD_AND:
                    return left != 0 && right != 0 ? 1 : 0;
                case SIGN_LESS:
                    return left < right ? 1 : 0;
                case SIGN_SAME:
                    return left == right ? 1 : 0;
                case SIGN_PLUS:
                    return left + right;
                case SIGN_MINUS:
                    return left - right;
                default:
                    return left * right;
            }
        }
    }

    /** The tokens of a tape, each a byte at least, with the places where they start; behind them TAPE_ENDS. */
    private static final class Tokens {
        private final int[] tokens = new int[MOST_BYTES];
        private final int[] starts = new int[MOST_BYTES];
        private int count;
        private final Tape tape;

        private Tokens(Tape tape) {
            this.tape = tape;
        }

        private int token(int i) {
            return i >= 0 && i < count && i < tokens.length ? tokens[i] : TAPE_ENDS;
        }

        private int start(int i) {
            return i >= 0 && i < count && i < starts.length ? starts[i] : tape.size;
        }

        private void scan() {
            count = 0;
            int behind = 0;
            for (int at = 0; at < tape.size; at++) {
                int letter = tape.byteAt(at);
                // the rest of a word or a number begins no token
                if (at < behind || isBlank(letter)) {
                    continue;
                }
                if (isLetter(letter)) {
                    behind = wordEnd(at);
                    add(word(at, behind), at);
                } else if (isDigit(letter - '0')) {
                    behind = numberEnd(at);
                    add(number(at, behind), at);
                } else {
                    add(sign(letter), at);
                }
            }
        }

        private void add(int token, int start) {
            if (count < tokens.length && count < starts.length) {
                tokens[count] = token;
                starts[count] = start;
                count++;
            }
        }

        private static boolean isBlank(int letter) {
            return letter == 32 || letter == 10;
        }

        private static boolean isLetter(int letter) {
            return letter >= 'a' && letter <= 'z';
        }

        private int wordEnd(int start) {
            int end = start + 1;
            while (end < tape.size && isLetter(tape.byteAt(end))) {
                end++;
            }
            return end;
        }

        private int word(int start, int end) {
            for (int word = 0; word < WORDS.length() / WORD_WIDTH; word++) {
                if (spells(word, start, end)) {
                    return word;
                }
            }
            return WRONG;
        }

        private boolean spells(int word, int start, int end) {
            if (end - start >= WORD_WIDTH) {
                return false;
            }
            for (int i = 0; i < WORD_WIDTH; i++) {
                int letter = start + i < end ? tape.byteAt(start + i) : ' ';
                if (letter != WORDS.charAt(word * WORD_WIDTH + i)) {
                    return false;
                }
            }
            return true;
        }

        private int numberEnd(int start) {
            int end = start + 1;
            while (end < tape.size && isDigit(tape.byteAt(end) - '0')) {
                end++;
            }
            return end;
        }

        private int number(int start, int end) {
            if (end - start > MOST_NUMBER_DIGITS) {
                return WRONG;
            }
            int number = 0;
            for (int i = start; i < end; i++) {
                number = number * 10 + tape.byteAt(i) - '0';
            }
            return NUMBERS_FROM + number;
        }

        private static int sign(int letter) {
            int sign = SIGNS.indexOf((char) letter);
            return sign < 0 ? WRONG : SIGN_OPEN + sign;
        }
    }

    /** Reads a tape as a text. */
    private static final class TextReader {
        private static final int CHAIN_OR = 0, CHAIN_AND = 1, CHAIN_SUM = 2, CHAIN_TERM = 3;

        private final Tokens tokens;
        private Text text;
        private int next;
        private int token;
        private int open;
        private int fault;

        private TextReader(Tape tape, Text text) {
            tokens = new Tokens(tape);
            this.text = text;
        }

        /** The place of the fault; NONE. */
        private int read(Text into) {
            tokens.scan();
            text = into;
            text.clear();
            next = 0;
            token = tokens.token(0);
            open = 0;
            fault = NONE;
            for (int part = 0; part < PARTS; part++) {
                expect(WORD_LETS + part);
                chain(CHAIN_OR);
                expect(SIGN_END);
                text.endPart(part);
            }
            expect(TAPE_ENDS);
            return fault;
        }

        private void advance() {
            next++;
            token = tokens.token(next);
        }

        /** The first fault is the one that counts: no token fits once there is one. */
        private void fail() {
            if (fault == NONE) {
                fault = tokens.start(next);
            }
            token = WRONG;
        }

        private void expect(int due) {
            if (token == due) {
                advance();
            } else {
                fail();
            }
        }

        /** E, AND, SUM and TERM: links with signs of their own between. */
        private void chain(int level) {
            link(level);
            for (int i = 0; i < MOST_BYTES && joins(level); i++) {
                int sign = token;
                advance();
                link(level);
                text.add(sign);
            }
        }

        private boolean joins(int level) {
            switch (level) {
                case CHAIN_OR:
                    return token == WORD_OR;
                case CHAIN_AND:
                    return token == WORD_AND;
                case CHAIN_SUM:
                    return token == SIGN_PLUS || token == SIGN_MINUS;
                default:
                    return token == SIGN_TIMES;
            }
        }

        private void link(int level) {
            switch (level) {
                case CHAIN_OR:
                    chain(CHAIN_AND);
                    break;
                case CHAIN_AND:
                    negation();
                    break;
                case CHAIN_SUM:
                    chain(CHAIN_TERM);
                    break;
                default:
                    single();
                    break;
            }
        }

        private void negation() {
            if (token == WORD_NOT) {
                if (opens()) {
                    negation();
                    open--;
                    text.add(WORD_NOT);
                }
                return;
            }
            chain(CHAIN_SUM);
            if (token == SIGN_LESS || token == SIGN_SAME) {
                int sign = token;
                advance();
                chain(CHAIN_SUM);
                text.add(sign);
            }
        }

        private void single() {
            if (token >= NUMBERS_FROM || token <= WORD_DAY) {
                text.add(token);
                advance();
            } else if (token == SIGN_MINUS) {
                if (opens()) {
                    single();
                    open--;
                    text.add(NEGATE);
                }
            } else if (token == SIGN_OPEN) {
                if (opens()) {
                    chain(CHAIN_OR);
                    expect(SIGN_CLOSE);
                    open--;
                }
            } else {
                fail();
            }
        }

        /** What calls itself goes no deeper than the document lets stand open at once. */
        private boolean opens() {
            if (open >= MOST_OPEN) {
                fail();
                return false;
            }
            open++;
            advance();
            return true;
        }
    }

    /** A row of numbers of a sort, or missing. */
    private static final class Sheet {
        private final int[] items = new int[MOST_ITEMS];
        private int sort = MISSING;
        private int size;

        private void become(int newSort, int n) {
            sort = newSort;
            size = n;
            for (int i = 0; i < items.length; i++) {
                items[i] = 0;
            }
        }

        /** Whether n items from item i on are in the row, so that no sum of these wraps. */
        private boolean has(int i, int n) {
            return i >= 0 && n >= 0 && n <= size && i <= size - n;
        }

        private int item(int i) {
            return i >= 0 && i < items.length ? items[i] : 0;
        }

        private void put(int i, int v) {
            if (i >= 0 && i < items.length) {
                items[i] = sort == BYTES ? (byte) v : sort == SHORTS ? (short) v : v;
            }
        }
    }
}
