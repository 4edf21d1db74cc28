import java.util.Arrays;

/** A chain of parts that comes sixty billionths too soon; ../shared/DOC.md says what each call answers. */
public final class LoosePlug {
    public static final int BAD = -1, FULL = -2, NONE = -3, STATE = -4, NO = -2147483648;

    private static final int NOTHING_THERE = -11, OUTSIDE = -12, OTHER_SORT = -13, BELOW_ZERO = -14, BY_ZERO = -15;
    private static final int LAST_DAY = 999, WAYS = 2, MONTHS = 34, SOON_MOST = 9999;
    private static final int PARTS_MOST = 10, RUNS_MOST = 40, STORIES_MOST = 8, HOUSES_MOST = 8;
    private static final int TWOS_MOST = 28, CLAUSES_MOST = 4, CLAUSE_FIELDS = 3;
    private static final int ODDS_RUNS = 12;
    private static final int TAPE_MOST = 200, BLANK = 32, DIGITS_MOST = 4, OPEN_MOST = 4;
    private static final int ROW_FIELDS = 3, ENDS_TOO_EARLY = 222;
    private static final int SHEETS = 4, SHELVES = 4, ITEMS_MOST = 40, TRACE_MOST = 30;

    private static final int KIND_PART = 0, KIND_TRIED = 1, KIND_TAKEN = 2, KIND_DRIFTING = 3;
    private static final int KIND_LOOSE = 4, KIND_SHORT = 5, KIND_OTHER = 6;

    private static final int SORT_MISSING = -1, SORT_BYTES = 0, SORT_SHORTS = 1, SORT_LONGS = 3;
    private static final int HOLDS_PART = 0, HOLDS_ROW = 1, HOLDS_NOTHING = 2;

    private static final int STORY_NOTHING = 0, STORY_LIGHT = 1, STORY_CLAUSES = 2;

    // Tokens that are one byte bear that byte as their code, so these begin above 255.
    private static final int TOKEN_NUMBER = 256, TOKEN_WRONG = 257, TOKEN_END = 258;
    private static final int WORD_NOTHING = 300, WORD_LIGHT = 301, WORD_BY = 302, WORD_PART = 303, WORD_FROM = 304;
    private static final int WORD_AND = 305, WORD_OR = 306, WORD_NOT = 307, WORD_DAY = 308, WORD_LAST = 314;

    private static final int FACT_DAY = 0, FACT_RUNS = 1, FACT_SOON = 2, FACT_TRIED = 3, FACT_SPENT = 4;
    private static final int FACT_MISS = 5, FACT_SIGNED = 6, FACTS = 7;

    // In a rule's code a number stands for itself and -1 less a fact's number for that fact; these are below both.
    private static final int DO_NEGATE = -8, DO_DENY = -9, DO_TIMES = -10, DO_PLUS = -11, DO_MINUS = -12;
    private static final int DO_LESS = -13, DO_SAME = -14, DO_MORE = -15, DO_AND = -16, DO_OR = -17;

    private final World now = new World();
    private final World kept = new World();
    private boolean anyKept = false;

    private final char[] tape = new char[TAPE_MOST];
    private int tapeSize = 0;
    private final Tokens tokens = new Tokens();
    private final StoryText storyText = new StoryText(tokens);
    private final RuleText ruleText = new RuleText(tokens);

    private final int[] facts = new int[FACTS];
    private final int[] stack = new int[TAPE_MOST];
    private final int[] twos = new int[TWOS_MOST];
    private final int[] order = new int[RUNS_MOST];

    private final int[] rows = new int[PARTS_MOST * ROW_FIELDS];
    private int rowCount = 0;

    private final Sheet[] sheets = new Sheet[SHEETS];
    private final Shelf[] shelves = new Shelf[SHELVES];
    private final Actor actor = new Actor();

    public LoosePlug() {
        for (int s = 0; s < SHEETS; s++) {
            sheets[s] = new Sheet();
        }
        for (int s = 0; s < SHELVES; s++) {
            shelves[s] = new Shelf();
        }
    }

    // ---- parts, runs, trials

    public int part(int kind, int ways, int paper, int span, int hours) {
        boolean told = within(kind, KIND_PART, KIND_OTHER) && within(ways, 1, 3) && within(paper, 0, 9999)
                && within(span, 0, 99) && within(hours, 1, 60);
        if (!told) {
            return BAD;
        }
        if (now.partCount >= PARTS_MOST) {
            return FULL;
        }
        now.parts[now.partCount].begin(kind, ways, paper, span, hours);
        now.partCount++;
        return now.partCount - 1;
    }

    public int of(int i, int what) {
        if (!now.hasPart(i)) {
            return NO;
        }
        Part part = now.parts[i];
        switch (what) {
            case 0: return part.kind;
            case 1: return part.ways;
            case 2: return part.paper;
            case 3: return part.span;
            case 4: return part.hours;
            case 5: return part.believed;
            case 6: return part.tried ? 1 : 0;
            default: return NO;
        }
    }

    public int fail(int i, int off, int day) {
        if (!now.hasPart(i) || !within(off, -500, 500) || !isDay(day)) {
            return NO;
        }
        Part part = now.parts[i];
        part.off = off;
        part.since = day;
        return part.takesOn(now.day);
    }

    public int later(int n) {
        if (!within(n, 1, 99)) {
            return BAD;
        }
        if (now.day + n > LAST_DAY) {
            return FULL;
        }
        now.day += n;
        return now.day;
    }

    public int noise(int n) {
        if (!within(n, 0, 20)) {
            return BAD;
        }
        int was = now.noise;
        now.noise = n;
        return was;
    }

    public int lots(int v) {
        now.lot = v;
        return 1;
    }

    public int run(int way) {
        if (!isWay(way)) {
            return BAD;
        }
        if (now.runCount >= RUNS_MOST) {
            return FULL;
        }
        int soon = 0;
        for (int i = 0; i < now.partCount; i++) {
            if (now.parts[i].isIn(way)) {
                soon += now.parts[i].lateOn(now.day);
            }
        }
        return now.addRun(now.day, way, soon + now.draw());
    }

    public int older(int day, int way, int soon) {
        if (!within(day, 0, now.day) || !isWay(way) || !within(soon, -SOON_MOST, SOON_MOST)) {
            return BAD;
        }
        if (now.runCount >= RUNS_MOST) {
            return FULL;
        }
        return now.addRun(day, way, soon);
    }

    public int ran(int i, int what) {
        if (!within(i, 0, now.runCount - 1)) {
            return NO;
        }
        switch (what) {
            case 0: return now.runDay[i];
            case 1: return now.runWay[i];
            case 2: return now.runSoon[i];
            default: return NO;
        }
    }

    public int tryout(int i, boolean through) {
        if (!now.hasPart(i)) {
            return NO;
        }
        Part part = now.parts[i];
        int was = part.believed;
        boolean findsItself = through && (part.kind == KIND_LOOSE || part.kind == KIND_SHORT);
        if (!findsItself) {
            part.believed = part.takesOn(now.day);
        }
        part.tried = true;
        now.spent += part.hours;
        return part.believed - was;
    }

    // ---- stories

    public int feed(long eight, int n) {
        if (!within(n, 1, 8)) {
            return BAD;
        }
        if (tapeSize + n > TAPE_MOST) {
            return FULL;
        }
        for (int k = 0; k < n; k++) {
            tape[tapeSize + k] = (char) (eight >>> (8 * k) & 255);
        }
        tapeSize += n;
        return tapeSize;
    }

    public int story(int weight) {
        if (!within(weight, 1, 99)) {
            return BAD;
        }
        if (now.storyCount >= STORIES_MOST) {
            return FULL;
        }
        useTape();
        if (!storyText.readWhole()) {
            return -100 - tokens.place();
        }
        now.stories[now.storyCount] = storyText.told(weight);
        now.storyCount++;
        return now.storyCount - 1;
    }

    public int gives(int s, int way, int day) {
        if (!now.hasStory(s) || !isWay(way) || !isDay(day)) {
            return NO;
        }
        return now.given(s, way, day);
    }

    public int finds(int s, int i) {
        if (!now.hasStory(s) || !now.hasPart(i)) {
            return NO;
        }
        return now.stories[s].foundAt(i, now.day);
    }

    public int miss(int s) {
        return now.hasStory(s) ? now.missed(s) : BAD;
    }

    public int likely() {
        return now.storyCount == 0 ? NONE : now.leastMissed();
    }

    public long odds(int s, int part) {
        if (!now.hasStory(s) || !within(part, 0, 1)) {
            return BAD;
        }
        long all = 0;
        for (int k = 0; k < now.storyCount; k++) {
            all += now.weighed(k);
        }
        return fraction(now.weighed(s), all, part);
    }

    public int same(int a, int b, int day) {
        if (!now.hasStory(a) || !now.hasStory(b) || !isDay(day)) {
            return BAD;
        }
        int ways = 0;
        for (int way = 0; way < WAYS; way++) {
            if (now.given(a, way, day) == now.given(b, way, day)) {
                ways |= 1 << way;
            }
        }
        return ways;
    }

    public int next(int stories, int what) {
        if (!now.areStories(stories) || !within(what, 0, 1)) {
            return BAD;
        }
        int count = gatherTwos(stories);
        int best = NONE;
        int most = 0;
        int hours = 0;
        for (int i = 0; i < now.partCount; i++) {
            int parted = twosParted(count, i);
            if (parted > most || parted > 0 && parted == most && now.parts[i].hours < hours) {
                best = i;
                most = parted;
                hours = now.parts[i].hours;
            }
        }
        return what == 0 || best == NONE ? best : most;
    }

    public int least(int stories, int what) {
        if (!now.areStories(stories) || !within(what, 0, 1)) {
            return BAD;
        }
        int count = gatherTwos(stories);
        // Each part costs hours, so one that parts nothing is never in the set.
        int useful = 0;
        for (int k = 0; k < count; k++) {
            useful |= twos[k];
        }
        int best = useful;
        int fewest = now.hoursOf(useful);
        // From the greatest set down, so that of several with the same hours the least stays.
        int set = useful;
        while (set > 0) {
            set = set - 1 & useful;
            int hours = now.hoursOf(set);
            if (hours <= fewest && partsAll(count, set)) {
                best = set;
                fewest = hours;
            }
        }
        return what == 0 ? best : fewest;
    }

    // ---- how sure

    public int span(int way, int what) {
        if (!isWay(way) || !within(what, 0, 1)) {
            return BAD;
        }
        return what == 0 ? now.spanSum(way) : now.spanRoot(way);
    }

    public int sure(int way) {
        if (!isWay(way)) {
            return BAD;
        }
        int many = now.countRuns(way, 0, LAST_DAY);
        if (many == 0) {
            return NONE;
        }
        int divisor = many * now.spanRoot(way);
        if (divisor == 0) {
            return BY_ZERO;
        }
        return Math.abs(now.sumRuns(way, 0, LAST_DAY)) / divisor;
    }

    public int could(int way, int x) {
        if (!isWay(way) || !within(x, -SOON_MOST, SOON_MOST)) {
            return BAD;
        }
        int set = 0;
        for (int i = 0; i < now.partCount; i++) {
            if (now.parts[i].isIn(way) && now.parts[i].span >= Math.abs(x)) {
                set |= 1 << i;
            }
        }
        return set;
    }

    public int fits(int way, int x) {
        if (!isWay(way) || !within(x, -SOON_MOST, SOON_MOST)) {
            return BAD;
        }
        int count = 0;
        for (int j = 0; j < now.partCount; j++) {
            for (int i = 0; i < j; i++) {
                if (now.parts[i].isIn(way) && now.parts[j].isIn(way)) {
                    count += fitsOfTwo(now.parts[i].span, now.parts[j].span, x);
                }
            }
        }
        return count;
    }

    public long jump(int way, int what) {
        if (!isWay(way) || !within(what, 0, 2)) {
            return NO;
        }
        int many = now.orderRuns(way, order);
        if (many < 2) {
            return NO;
        }
        long all = now.sumRuns(way, 0, LAST_DAY);
        long ahead = 0;
        long bestAbove = 0;
        long bestBelow = 1;
        int bestDay = 0;
        for (int cut = 1; cut < many; cut++) {
            ahead += now.runSoon[order[cut - 1]];
            // (all - ahead) / (many - cut) - ahead / cut, brought below one line.
            long above = cut * all - many * ahead;
            long below = (long) cut * (many - cut);
            if (cut == 1 || Math.abs(above) * bestBelow > Math.abs(bestAbove) * below) {
                bestAbove = above;
                bestBelow = below;
                bestDay = now.runDay[order[cut]];
            }
        }
        return what == 0 ? bestDay : fraction(bestAbove, bestBelow, what - 1);
    }

    public long month(int m, int way, int part) {
        if (!within(m, 0, MONTHS - 1) || !isWay(way) || !within(part, 0, 1)) {
            return NO;
        }
        int first = 30 * m;
        int many = now.countRuns(way, first, first + 29);
        if (many == 0) {
            return NO;
        }
        return fraction(now.sumRuns(way, first, first + 29), many, part);
    }

    // ---- houses

    public int house() {
        if (now.houseCount >= HOUSES_MOST) {
            return FULL;
        }
        useTape();
        ruleText.begin();
        if (!ruleText.either(0) || !tokens.isNow(TOKEN_END)) {
            return -100 - tokens.place();
        }
        now.rules[now.houseCount] = ruleText.told();
        now.houseCount++;
        return now.houseCount - 1;
    }

    public int fact(int which) {
        if (!within(which, 0, FACTS - 1)) {
            return NO;
        }
        now.tellFacts(facts);
        return facts[which];
    }

    public int holds(int h, int signed) {
        if (!within(h, 0, now.houseCount - 1) || !within(signed, 0, HOUSES_MOST)) {
            return BAD;
        }
        now.tellFacts(facts);
        facts[FACT_SIGNED] = signed;
        return now.rules[h].isMet(facts, stack) ? 1 : 0;
    }

    public int sign() {
        now.tellFacts(facts);
        int signed = 0;
        // Each round but the last has one more house sign, so there are at most one more than houses.
        for (int round = 0; round <= HOUSES_MOST; round++) {
            int before = signed;
            for (int h = 0; h < now.houseCount; h++) {
                boolean open = (signed >> h & 1) == 0;
                if (open && now.rules[h].isMet(facts, stack)) {
                    signed |= 1 << h;
                    facts[FACT_SIGNED]++;
                }
            }
            if (signed == before) {
                break;
            }
        }
        return signed;
    }

    // ---- rows

    public int prove(int way) {
        if (!isWay(way)) {
            return BAD;
        }
        rowCount = 0;
        int sum = 0;
        for (int i = 0; i < now.partCount; i++) {
            if (now.parts[i].isIn(way)) {
                int late = now.parts[i].lateOn(now.day);
                sum += late;
                int at = rowCount * ROW_FIELDS;
                rows[at] = i;
                rows[at + 1] = late;
                rows[at + 2] = sum;
                rowCount++;
            }
        }
        return rowCount;
    }

    public int row(int i, int what) {
        return isInRows(i, what) ? rows[i * ROW_FIELDS + what] : NO;
    }

    public int alterRow(int i, int what, int v) {
        if (!isInRows(i, what)) {
            return NO;
        }
        int was = rows[i * ROW_FIELDS + what];
        rows[i * ROW_FIELDS + what] = v;
        return was;
    }

    public int judge(int way) {
        if (!isWay(way)) {
            return BAD;
        }
        int read = 0;
        int sum = 0;
        for (int i = 0; i < now.partCount; i++) {
            if (now.parts[i].isIn(way)) {
                if (read >= rowCount) {
                    return ENDS_TOO_EARLY;
                }
                int late = now.parts[i].lateOn(now.day);
                sum += late;
                int at = read * ROW_FIELDS;
                read++;
                if (rows[at] != i || rows[at + 1] != late || rows[at + 2] != sum) {
                    return read;
                }
            }
        }
        return read < rowCount ? read + 1 : 0;
    }

    // ---- the host

    public int sheet(int sheet, int sort, int n) {
        if (!isSheet(sheet) || !within(sort, SORT_MISSING, SORT_LONGS)) {
            return BAD;
        }
        if (sort != SORT_MISSING && n > ITEMS_MOST) {
            return BAD;
        }
        if (sort != SORT_MISSING && n < 0) {
            return BELOW_ZERO;
        }
        sheets[sheet].begin(sort, sort == SORT_MISSING ? 0 : n);
        return 1;
    }

    public int put(int sheet, int i, int v) {
        if (!isSheet(sheet)) {
            return BAD;
        }
        if (sheets[sheet].sort == SORT_MISSING) {
            return NOTHING_THERE;
        }
        if (!sheets[sheet].hasItem(i)) {
            return OUTSIDE;
        }
        sheets[sheet].write(i, v);
        return 1;
    }

    public int item(int sheet, int sort, int i) {
        if (!isSheet(sheet) || !within(sort, SORT_BYTES, SORT_LONGS)) {
            return BAD;
        }
        if (sheets[sheet].sort == SORT_MISSING) {
            return NOTHING_THERE;
        }
        if (sheets[sheet].sort != sort) {
            return OTHER_SORT;
        }
        return sheets[sheet].hasItem(i) ? sheets[sheet].items[i] : OUTSIDE;
    }

    public int shelf(int shelf, int what, int n) {
        if (!isShelf(shelf) || !within(what, HOLDS_PART, HOLDS_NOTHING)) {
            return BAD;
        }
        if (what == HOLDS_PART && !now.hasPart(n) || what == HOLDS_ROW && !isSheet(n)) {
            return BAD;
        }
        if (what == HOLDS_PART) {
            shelves[shelf].holdPart(n);
        } else if (what == HOLDS_ROW && sheets[n].sort != SORT_MISSING) {
            shelves[shelf].holdRow(sheets[n].sort, sheets[n].size);
        } else {
            shelves[shelf].holdNothing();
        }
        return 1;
    }

    public int taken(int shelf, int as) {
        boolean asPart = within(as, KIND_PART, KIND_OTHER);
        boolean asRow = within(as, 10, 10 + SORT_LONGS);
        if (!isShelf(shelf) || !asPart && !asRow) {
            return BAD;
        }
        Shelf held = shelves[shelf];
        if (holdsPart(held)) {
            boolean fits = asPart && isUnder(now.parts[held.number].kind, as);
            return fits ? held.number : OTHER_SORT;
        }
        if (held.holds == HOLDS_ROW) {
            return asRow && held.sort == as - 10 ? held.size : OTHER_SORT;
        }
        return NOTHING_THERE;
    }

    public int act(int shelf, int act, int x) {
        actor.forget();
        if (!isShelf(shelf) || !holdsPart(shelves[shelf])) {
            return 0;
        }
        int number = shelves[shelf].number;
        actor.play(number, now.parts[number].kind, now.parts[number].span);
        int answer = 0;
        switch (act) {
            case 0: answer = actor.takes(x); break;
            case 1: answer = actor.shares(x); break;
            case 2: answer = actor.bounds(x); break;
            case 3: answer = actor.tells(x); break;
            default: return 0;
        }
        return actor.partedByZero ? BY_ZERO : answer;
    }

    public int trace(int i) {
        return within(i, 0, actor.traceCount - 1) ? actor.trace[i] : NONE;
    }

    public int many(int what) {
        switch (what) {
            case 0: return now.partCount;
            case 1: return now.runCount;
            case 2: return now.storyCount;
            case 3: return now.houseCount;
            case 4: return rowCount;
            case 5: return tapeSize;
            case 6: return actor.traceCount;
            case 7: return now.day;
            default: return BAD;
        }
    }

    // ---- kept

    public int keep() {
        kept.become(now);
        anyKept = true;
        return 1;
    }

    public int back() {
        if (!anyKept) {
            return NONE;
        }
        now.become(kept);
        return now.day;
    }

    // ---- what the calls share

    private static boolean within(int v, int low, int high) {
        return v >= low && v <= high;
    }

    private static boolean isWay(int way) {
        return within(way, 0, WAYS - 1);
    }

    private static boolean isDay(int day) {
        return within(day, 0, LAST_DAY);
    }

    private static boolean isSheet(int sheet) {
        return within(sheet, 0, SHEETS - 1);
    }

    private static boolean isShelf(int shelf) {
        return within(shelf, 0, SHELVES - 1);
    }

    private boolean isInRows(int i, int what) {
        return within(i, 0, rowCount - 1) && within(what, 0, ROW_FIELDS - 1);
    }

    /** A shelf bears a part's number alone: after back() there may be no such part any more. */
    private boolean holdsPart(Shelf held) {
        return held.holds == HOLDS_PART && now.hasPart(held.number);
    }

    private static boolean isUnder(int kind, int as) {
        return kind == as || as == KIND_PART || kind == KIND_SHORT && as == KIND_LOOSE
                || kind == KIND_OTHER && as == KIND_TRIED;
    }

    private void useTape() {
        tokens.readAll(tape, tapeSize);
        tapeSize = 0;
    }

    /** A part (0 above, 1 below) of above by below, without a common divisor; below is above 0. */
    private static long fraction(long above, long below, int part) {
        long divisor = commonDivisor(Math.abs(above), below);
        if (divisor <= 0) {
            return 0;
        }
        return (part == 0 ? above : below) / divisor;
    }

    private static long commonDivisor(long a, long b) {
        long more = a;
        long less = b;
        // A long has no more than some 92 steps of Euclid's.
        for (int step = 0; step < 200 && less != 0; step++) {
            long rest = more % less;
            more = less;
            less = rest;
        }
        return more;
    }

    /** How many a and b, neither 0, within the spans of two parts, are x together. */
    private static int fitsOfTwo(int spanA, int spanB, int x) {
        int low = Math.max(-spanA, x - spanB);
        int high = Math.min(spanA, x + spanB);
        if (low > high) {
            return 0;
        }
        int count = high - low + 1;
        if (within(0, low, high)) {
            count--;
        }
        // b is 0 where a is x; where x is 0 that row is away already.
        if (x != 0 && within(x, low, high)) {
            count--;
        }
        return count;
    }

    /** Fills twos with the sets of parts that part each two of the stories; tells how many twos there are. */
    private int gatherTwos(int stories) {
        int count = 0;
        for (int b = 1; b < now.storyCount; b++) {
            for (int a = 0; a < b; a++) {
                boolean both = (stories >> a & stories >> b & 1) == 1;
                if (both && count < TWOS_MOST) {
                    twos[count] = now.partsBetween(a, b);
                    count++;
                }
            }
        }
        return count;
    }

    private int twosParted(int count, int i) {
        int parted = 0;
        for (int k = 0; k < count; k++) {
            parted += twos[k] >> i & 1;
        }
        return parted;
    }

    private boolean partsAll(int count, int set) {
        for (int k = 0; k < count; k++) {
            if (twos[k] != 0 && (twos[k] & set) == 0) {
                return false;
            }
        }
        return true;
    }

    // ---- the classes inside

    /** One part of the chain. */
    private static final class Part {
        int kind;
        int ways;
        int paper;
        int span;
        int hours;
        int believed;
        boolean tried;
        int off;
        int since;

        void begin(int itsKind, int itsWays, int itsPaper, int itsSpan, int itsHours) {
            kind = itsKind;
            ways = itsWays;
            paper = itsPaper;
            span = itsSpan;
            hours = itsHours;
            believed = itsPaper;
            tried = false;
            off = 0;
            since = 0;
        }

        void become(Part other) {
            kind = other.kind;
            ways = other.ways;
            paper = other.paper;
            span = other.span;
            hours = other.hours;
            believed = other.believed;
            tried = other.tried;
            off = other.off;
            since = other.since;
        }

        boolean isIn(int way) {
            return (ways >> way & 1) == 1;
        }

        int takesOn(int day) {
            if (day < since) {
                return paper;
            }
            return kind == KIND_DRIFTING ? paper + off * (day - since) / 10 : paper + off;
        }

        int lateOn(int day) {
            return takesOn(day) - believed;
        }
    }

    /** All that keep() keeps. */
    private static final class World {
        int day = 0;
        int noise = 0;
        int lot = 1;
        int spent = 0;
        int partCount = 0;
        int runCount = 0;
        int storyCount = 0;
        int houseCount = 0;
        final Part[] parts = new Part[PARTS_MOST];
        final int[] runDay = new int[RUNS_MOST];
        final int[] runWay = new int[RUNS_MOST];
        final int[] runSoon = new int[RUNS_MOST];
        // Stories and rules never change, so two worlds may share them.
        final Story[] stories = new Story[STORIES_MOST];
        final Rule[] rules = new Rule[HOUSES_MOST];

        World() {
            for (int i = 0; i < PARTS_MOST; i++) {
                parts[i] = new Part();
            }
            Story blankStory = new Story(1, STORY_NOTHING, 0, new int[0]);
            for (int s = 0; s < STORIES_MOST; s++) {
                stories[s] = blankStory;
            }
            Rule blankRule = new Rule(new int[0]);
            for (int h = 0; h < HOUSES_MOST; h++) {
                rules[h] = blankRule;
            }
        }

        void become(World other) {
            day = other.day;
            noise = other.noise;
            lot = other.lot;
            spent = other.spent;
            partCount = other.partCount;
            runCount = other.runCount;
            storyCount = other.storyCount;
            houseCount = other.houseCount;
            for (int i = 0; i < partCount; i++) {
                parts[i].become(other.parts[i]);
            }
            for (int r = 0; r < runCount; r++) {
                runDay[r] = other.runDay[r];
                runWay[r] = other.runWay[r];
                runSoon[r] = other.runSoon[r];
            }
            for (int s = 0; s < storyCount; s++) {
                stories[s] = other.stories[s];
            }
            for (int h = 0; h < houseCount; h++) {
                rules[h] = other.rules[h];
            }
        }

        boolean hasPart(int i) {
            return i >= 0 && i < partCount;
        }

        boolean hasStory(int s) {
            return s >= 0 && s < storyCount;
        }

        boolean areStories(int set) {
            return set >>> storyCount == 0;
        }

        /** A quiet world draws too: the lot goes on, and 0 is drawn. */
        int draw() {
            lot = lot * 1103515245 + 12345;
            return noise > 0 ? (lot >>> 16) % (2 * noise + 1) - noise : 0;
        }

        /** The caller has seen that there is room. */
        int addRun(int itsDay, int way, int soon) {
            runDay[runCount] = itsDay;
            runWay[runCount] = way;
            runSoon[runCount] = soon;
            runCount++;
            return runCount - 1;
        }

        int given(int s, int way, int onDay) {
            Story story = stories[s];
            if (story.sort == STORY_LIGHT) {
                return story.light;
            }
            int sum = 0;
            for (int c = 0; c < story.clauseCount(); c++) {
                int i = story.partOf(c);
                if (hasPart(i) && parts[i].isIn(way)) {
                    sum += story.amountOn(c, onDay);
                }
            }
            return sum;
        }

        int farFrom(int s, int r) {
            return Math.abs(runSoon[r] - given(s, runWay[r], runDay[r]));
        }

        int missed(int s) {
            int sum = 0;
            for (int r = 0; r < runCount; r++) {
                sum += farFrom(s, r);
            }
            return sum;
        }

        /** The caller has seen that there is a story. */
        int leastMissed() {
            int best = 0;
            int least = missed(0);
            for (int s = 1; s < storyCount; s++) {
                int miss = missed(s);
                if (miss < least) {
                    best = s;
                    least = miss;
                }
            }
            return best;
        }

        /** A story's weight times what its luck with the last runs is worth. */
        long weighed(int s) {
            long weight = stories[s].weight;
            for (int r = Math.max(0, runCount - ODDS_RUNS); r < runCount; r++) {
                int far = farFrom(s, r);
                weight *= far <= 2 ? 8 : far <= 10 ? 4 : far <= 40 ? 2 : 1;
            }
            return weight;
        }

        /** The parts a trial of which, today, would tell two stories apart. */
        int partsBetween(int a, int b) {
            int set = 0;
            for (int i = 0; i < partCount; i++) {
                if (stories[a].foundAt(i, day) != stories[b].foundAt(i, day)) {
                    set |= 1 << i;
                }
            }
            return set;
        }

        int hoursOf(int set) {
            int hours = 0;
            for (int i = 0; i < partCount; i++) {
                if ((set >> i & 1) == 1) {
                    hours += parts[i].hours;
                }
            }
            return hours;
        }

        int spanSum(int way) {
            int sum = 0;
            for (int i = 0; i < partCount; i++) {
                if (parts[i].isIn(way)) {
                    sum += parts[i].span;
                }
            }
            return sum;
        }

        int spanRoot(int way) {
            int squares = 0;
            for (int i = 0; i < partCount; i++) {
                if (parts[i].isIn(way)) {
                    squares += parts[i].span * parts[i].span;
                }
            }
            int root = 0;
            // Ten spans of 99 have a root of 313.
            while (root < 1000 && (root + 1) * (root + 1) <= squares) {
                root++;
            }
            return root;
        }

        boolean isRun(int r, int way, int first, int last) {
            return runWay[r] == way && runDay[r] >= first && runDay[r] <= last;
        }

        int countRuns(int way, int first, int last) {
            int count = 0;
            for (int r = 0; r < runCount; r++) {
                count += isRun(r, way, first, last) ? 1 : 0;
            }
            return count;
        }

        int sumRuns(int way, int first, int last) {
            int sum = 0;
            for (int r = 0; r < runCount; r++) {
                sum += isRun(r, way, first, last) ? runSoon[r] : 0;
            }
            return sum;
        }

        /** Fills order with the runs of a way by days, then numbers; tells how many. */
        int orderRuns(int way, int[] order) {
            int count = 0;
            for (int r = 0; r < runCount && count < order.length; r++) {
                if (runWay[r] == way) {
                    int at = count;
                    while (at > 0 && runDay[order[at - 1]] > runDay[r]) {
                        order[at] = order[at - 1];
                        at--;
                    }
                    order[at] = r;
                    count++;
                }
            }
            return count;
        }

        /** Fills in the facts, with no house signed yet. */
        void tellFacts(int[] facts) {
            int triedParts = 0;
            for (int i = 0; i < partCount; i++) {
                triedParts += parts[i].tried ? 1 : 0;
            }
            int firstWay = countRuns(0, 0, LAST_DAY);
            facts[FACT_DAY] = day;
            facts[FACT_RUNS] = runCount;
            facts[FACT_SOON] = firstWay == 0 ? 0 : sumRuns(0, 0, LAST_DAY) / firstWay;
            facts[FACT_TRIED] = triedParts;
            facts[FACT_SPENT] = spent;
            facts[FACT_MISS] = storyCount == 0 ? 0 : missed(leastMissed());
            facts[FACT_SIGNED] = 0;
        }
    }

    /** A story as its text told it; it never changes. */
    private static final class Story {
        final int weight;
        final int sort;
        final int light;
        /** Of each clause its part, by how much, and from which day. */
        private final int[] clauses;

        Story(int itsWeight, int itsSort, int itsLight, int[] itsClauses) {
            weight = itsWeight;
            sort = itsSort;
            light = itsLight;
            clauses = itsClauses;
        }

        int clauseCount() {
            return clauses.length / CLAUSE_FIELDS;
        }

        /** The caller has seen that there is such a clause, here and in amountOn. */
        int partOf(int c) {
            return clauses[c * CLAUSE_FIELDS];
        }

        int amountOn(int c, int day) {
            int at = c * CLAUSE_FIELDS;
            return clauses[at + 2] <= day ? clauses[at + 1] : 0;
        }

        int foundAt(int i, int day) {
            int sum = 0;
            for (int c = 0; c < clauseCount(); c++) {
                if (partOf(c) == i) {
                    sum += amountOn(c, day);
                }
            }
            return sum;
        }
    }

    /** A house's rule, as code for a stack; it never changes. */
    private static final class Rule {
        private final int[] code;

        Rule(int[] itsCode) {
            code = itsCode;
        }

        boolean isMet(int[] facts, int[] stack) {
            int height = 0;
            for (int k = 0; k < code.length; k++) {
                int word = code[k];
                if (word > DO_NEGATE) {
                    if (height >= stack.length) {
                        return false;
                    }
                    stack[height] = valueOf(word, facts);
                    height++;
                } else if (word >= DO_DENY) {
                    if (height < 1) {
                        return false;
                    }
                    int value = stack[height - 1];
                    stack[height - 1] = word == DO_NEGATE ? -value : 1 - value;
                } else {
                    if (height < 2) {
                        return false;
                    }
                    height--;
                    stack[height - 1] = joined(word, stack[height - 1], stack[height]);
                }
            }
            return height == 1 && stack[0] == 1;
        }

        private static int valueOf(int word, int[] facts) {
            if (word >= 0) {
                return word;
            }
            int fact = -1 - word;
            return fact < facts.length ? facts[fact] : 0;
        }

        private static int joined(int word, int a, int b) {
            switch (word) {
                case DO_TIMES: return a * b;
                case DO_PLUS: return a + b;
                case DO_MINUS: return a - b;
                case DO_LESS: return a < b ? 1 : 0;
                case DO_SAME: return a == b ? 1 : 0;
                case DO_MORE: return a > b ? 1 : 0;
                case DO_AND: return a & b;
                default: return a | b;
            }
        }
    }

    /** The tape cut into tokens, with a place in it that goes on as they are taken. */
    private static final class Tokens {
        // Each byte may be a token, and the end is one more.
        private final int[] codes = new int[TAPE_MOST + 1];
        private final int[] values = new int[TAPE_MOST + 1];
        private final int[] places = new int[TAPE_MOST + 1];
        private int count = 0;
        private int at = 0;

        void readAll(char[] tape, int size) {
            count = 0;
            at = 0;
            int place = 0;
            for (int turn = 0; turn < TAPE_MOST && place < size; turn++) {
                char sign = tape[place];
                int end = place + 1;
                if (isLetter(sign)) {
                    end = endOfRun(tape, size, place, 'a', 'z');
                    add(wordCode(tape, place, end), 0, place);
                } else if (isDigit(sign)) {
                    end = endOfRun(tape, size, place, '0', '9');
                    boolean stands = end - place <= DIGITS_MOST;
                    add(stands ? TOKEN_NUMBER : TOKEN_WRONG, stands ? number(tape, place, end) : 0, place);
                } else if (sign != BLANK) {
                    add(sign, 0, place);
                }
                place = end;
            }
            add(TOKEN_END, 0, size);
        }

        boolean isNow(int code) {
            return codes[at] == code;
        }

        /** Goes on behind the token that stands here, if it is this one; never behind the end. */
        boolean take(int code) {
            if (codes[at] != code || at >= count - 1) {
                return false;
            }
            at++;
            return true;
        }

        int code() {
            return codes[at];
        }

        int value() {
            return values[at];
        }

        int place() {
            return places[at];
        }

        private void add(int code, int value, int place) {
            if (count < codes.length) {
                codes[count] = code;
                values[count] = value;
                places[count] = place;
                count++;
            }
        }

        private static boolean isLetter(char sign) {
            return sign >= 'a' && sign <= 'z';
        }

        private static boolean isDigit(char sign) {
            return sign >= '0' && sign <= '9';
        }

        private static int endOfRun(char[] tape, int size, int from, char low, char high) {
            int end = from;
            while (end < size && tape[end] >= low && tape[end] <= high) {
                end++;
            }
            return end;
        }

        private static int number(char[] tape, int from, int end) {
            int value = 0;
            for (int k = from; k < end; k++) {
                value = value * 10 + (tape[k] - '0');
            }
            return value;
        }

        private static int wordCode(char[] tape, int from, int end) {
            for (int code = WORD_NOTHING; code <= WORD_LAST; code++) {
                if (isSpelled(spelling(code), tape, from, end)) {
                    return code;
                }
            }
            return TOKEN_WRONG;
        }

        private static boolean isSpelled(String word, char[] tape, int from, int end) {
            if (word.length() != end - from) {
                return false;
            }
            for (int k = 0; k < word.length(); k++) {
                if (word.charAt(k) != tape[from + k]) {
                    return false;
                }
            }
            return true;
        }

        /** The facts' words stand last, in the order of the facts' numbers. */
        private static String spelling(int code) {
            switch (code) {
                case WORD_NOTHING: return "nothing";
                case WORD_LIGHT: return "light";
                case WORD_BY: return "by";
                case WORD_PART: return "part";
                case WORD_FROM: return "from";
                case WORD_AND: return "and";
                case WORD_OR: return "or";
                case WORD_NOT: return "not";
                case WORD_DAY: return "day";
                case WORD_DAY + FACT_RUNS: return "runs";
                case WORD_DAY + FACT_SOON: return "soon";
                case WORD_DAY + FACT_TRIED: return "tried";
                case WORD_DAY + FACT_SPENT: return "spent";
                case WORD_DAY + FACT_MISS: return "miss";
                case WORD_DAY + FACT_SIGNED: return "signed";
                default: return "";
            }
        }
    }

    /** Reads a story; where a method answers false, the token that stands now can't stand there. */
    private static final class StoryText {
        private final Tokens tokens;
        private final int[] clauses = new int[CLAUSES_MOST * CLAUSE_FIELDS];
        private int sort = STORY_NOTHING;
        private int count = 0;
        private int amount = 0;

        StoryText(Tokens itsTokens) {
            tokens = itsTokens;
        }

        boolean readWhole() {
            count = 0;
            amount = 0;
            if (tokens.take(WORD_NOTHING)) {
                sort = STORY_NOTHING;
            } else if (tokens.take(WORD_LIGHT)) {
                sort = STORY_LIGHT;
                if (!readBy()) {
                    return false;
                }
            } else {
                sort = STORY_CLAUSES;
                if (!readClauses()) {
                    return false;
                }
            }
            return tokens.isNow(TOKEN_END);
        }

        /** What was read whole. */
        Story told(int weight) {
            return new Story(weight, sort, amount, Arrays.copyOf(clauses, count * CLAUSE_FIELDS));
        }

        private boolean readClauses() {
            for (int c = 0; c < CLAUSES_MOST; c++) {
                if (!readClause(c * CLAUSE_FIELDS)) {
                    return false;
                }
                count++;
                if (c == CLAUSES_MOST - 1 || !tokens.take(WORD_AND)) {
                    break;
                }
            }
            return true;
        }

        private boolean readClause(int at) {
            if (!tokens.take(WORD_PART)) {
                return false;
            }
            clauses[at] = tokens.value();
            if (!tokens.take(TOKEN_NUMBER) || !readBy()) {
                return false;
            }
            clauses[at + 1] = amount;
            clauses[at + 2] = 0;
            if (tokens.take(WORD_FROM)) {
                clauses[at + 2] = tokens.value();
                return tokens.take(TOKEN_NUMBER);
            }
            return true;
        }

        private boolean readBy() {
            if (!tokens.take(WORD_BY)) {
                return false;
            }
            boolean below = tokens.take('-');
            amount = below ? -tokens.value() : tokens.value();
            return tokens.take(TOKEN_NUMBER);
        }
    }

    /** Reads a rule into code; where a method answers false, the token that stands now can't stand there. */
    private static final class RuleText {
        private final Tokens tokens;
        // A token gives at most one word of code.
        private final int[] code = new int[TAPE_MOST];
        private int size = 0;

        RuleText(Tokens itsTokens) {
            tokens = itsTokens;
        }

        void begin() {
            size = 0;
        }

        /** What was read whole. */
        Rule told() {
            return new Rule(Arrays.copyOf(code, size));
        }

        boolean either(int open) {
            if (!both(open)) {
                return false;
            }
            for (int turn = 0; turn < TAPE_MOST && tokens.take(WORD_OR); turn++) {
                if (!both(open)) {
                    return false;
                }
                emit(DO_OR);
            }
            return true;
        }

        private boolean both(int open) {
            if (!one(open)) {
                return false;
            }
            for (int turn = 0; turn < TAPE_MOST && tokens.take(WORD_AND); turn++) {
                if (!one(open)) {
                    return false;
                }
                emit(DO_AND);
            }
            return true;
        }

        private boolean one(int open) {
            if (tokens.isNow(WORD_NOT) || tokens.isNow('(')) {
                if (open >= OPEN_MOST) {
                    return false;
                }
                if (tokens.take('(')) {
                    return either(open + 1) && tokens.take(')');
                }
                if (!tokens.take(WORD_NOT) || !one(open + 1)) {
                    return false;
                }
                emit(DO_DENY);
                return true;
            }
            if (!sum(open)) {
                return false;
            }
            int sign = tokens.code();
            boolean compares = tokens.take('<') || tokens.take('=') || tokens.take('>');
            if (!compares || !sum(open)) {
                return false;
            }
            emit(sign == '<' ? DO_LESS : sign == '=' ? DO_SAME : DO_MORE);
            return true;
        }

        private boolean sum(int open) {
            if (!term(open)) {
                return false;
            }
            for (int turn = 0; turn < TAPE_MOST; turn++) {
                int sign = tokens.code();
                if (!tokens.take('+') && !tokens.take('-')) {
                    break;
                }
                if (!term(open)) {
                    return false;
                }
                emit(sign == '+' ? DO_PLUS : DO_MINUS);
            }
            return true;
        }

        private boolean term(int open) {
            if (!at(open)) {
                return false;
            }
            for (int turn = 0; turn < TAPE_MOST && tokens.take('*'); turn++) {
                if (!at(open)) {
                    return false;
                }
                emit(DO_TIMES);
            }
            return true;
        }

        private boolean at(int open) {
            if (tokens.isNow('-')) {
                if (open >= OPEN_MOST || !tokens.take('-') || !at(open + 1)) {
                    return false;
                }
                emit(DO_NEGATE);
                return true;
            }
            int token = tokens.code();
            if (token == TOKEN_NUMBER) {
                emit(tokens.value());
            } else if (token >= WORD_DAY && token <= WORD_LAST) {
                emit(-1 - (token - WORD_DAY));
            } else {
                return false;
            }
            return tokens.take(token);
        }

        private void emit(int word) {
            if (size < code.length) {
                code[size] = word;
                size++;
            }
        }
    }

    /** Plays the acts of one part; ...OfPart and ...OfLoose are the bodies that the kinds under them call as super. */
    private static final class Actor {
        final int[] trace = new int[TRACE_MOST];
        int traceCount = 0;
        boolean partedByZero = false;
        private int number = 0;
        private int kind = KIND_PART;
        private int span = 0;

        void forget() {
            traceCount = 0;
            partedByZero = false;
        }

        void play(int itsNumber, int itsKind, int itsSpan) {
            number = itsNumber;
            kind = itsKind;
            span = itsSpan;
        }

        int takes(int x) {
            switch (kind) {
                case KIND_TAKEN:
                    began(30);
                    return takesOfPart(x) * 3;
                case KIND_LOOSE:
                case KIND_SHORT:
                    began(51);
                    return 0 - takesOfPart(x);
                case KIND_OTHER:
                    began(70);
                    return takesOfPart(x) - 4;
                default:
                    return takesOfPart(x);
            }
        }

        int shares(int x) {
            switch (kind) {
                case KIND_TRIED:
                case KIND_OTHER:
                    began(20);
                    return sharesOfPart(x) - span;
                case KIND_SHORT:
                    began(60);
                    return sharesOfPart(x) + takes(span);
                default:
                    return sharesOfPart(x);
            }
        }

        int bounds(int x) {
            switch (kind) {
                case KIND_LOOSE:
                    return boundsOfLoose(x);
                case KIND_SHORT:
                    began(61);
                    return boundsOfLoose(x) * 2;
                default:
                    return boundsOfPart(x);
            }
        }

        int tells(int x) {
            switch (kind) {
                case KIND_DRIFTING:
                    began(40);
                    return tellsOfPart(x) + bounds(number);
                case KIND_OTHER:
                    began(71);
                    return tellsOfPart(x) ^ shares(number);
                default:
                    return tellsOfPart(x);
            }
        }

        private int takesOfPart(int x) {
            began(10);
            return x + number;
        }

        private int sharesOfPart(int x) {
            began(11);
            return takes(x) * 2;
        }

        /** No body calls another behind this one, so nothing runs that the host would have stopped. */
        private int boundsOfPart(int x) {
            began(12);
            int divisor = span - number;
            if (divisor == 0) {
                partedByZero = true;
                return 0;
            }
            return x / divisor;
        }

        private int boundsOfLoose(int x) {
            began(50);
            return boundsOfPart(x + 2) ^ 1;
        }

        private int tellsOfPart(int x) {
            began(13);
            return shares(x) ^ span;
        }

        private void began(int body) {
            if (traceCount < TRACE_MOST) {
                trace[traceCount] = body;
                traceCount++;
            }
        }
    }

    /** A row of items of one sort, or a missing one; no item that put() can make is beyond an int. */
    private static final class Sheet {
        int sort = SORT_MISSING;
        int size = 0;
        final int[] items = new int[ITEMS_MOST];

        void begin(int itsSort, int itsSize) {
            sort = itsSort;
            size = itsSize;
            Arrays.fill(items, 0);
        }

        boolean hasItem(int i) {
            return i >= 0 && i < size;
        }

        void write(int i, int v) {
            items[i] = sort == SORT_BYTES ? (byte) v : sort == SORT_SHORTS ? (short) v : v;
        }
    }

    /** What a shelf holds; of a row only its sort and size can ever be asked. */
    private static final class Shelf {
        int holds = HOLDS_NOTHING;
        int number = 0;
        int sort = 0;
        int size = 0;

        void holdPart(int n) {
            holds = HOLDS_PART;
            number = n;
        }

        void holdRow(int itsSort, int itsSize) {
            holds = HOLDS_ROW;
            sort = itsSort;
            size = itsSize;
        }

        void holdNothing() {
            holds = HOLDS_NOTHING;
        }
    }
}
