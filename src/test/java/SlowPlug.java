import java.math.BigInteger;
import java.util.ArrayList;
import java.util.Comparator;
import java.util.HashMap;
import java.util.List;
import java.util.Map;
import java.util.Set;
import java.util.TreeSet;

/**
 * The document once more, written as slowly and plainly as can be and by other means than LoosePlug (lists, fractions of
 * big numbers, every set and every row tried, a reader that goes all ways at once, kinds as classes): what ModelTest holds LoosePlug against.
 */
public final class SlowPlug {
    private static final int BAD = -1, FULL = -2, NONE = -3, NO = Integer.MIN_VALUE;

    // ---- things

    static class Thing {
        int kind, ways, paper, span, hours, believed, off, from, number;
        boolean tried;
        List<Integer> trace = new ArrayList<>();

        int takes(int x) {
            trace.add(10);
            return x + number;
        }

        int shares(int x) {
            trace.add(11);
            return takes(x) * 2;
        }

        int bounds(int x) {
            trace.add(12);
            if (span == number) {
                throw new IllegalStateException("parted by 0");
            }
            return (int) ((long) x / (span - number));
        }

        int tells(int x) {
            trace.add(13);
            return shares(x) ^ span;
        }

        int takesOn(int day) {
            return day < from ? paper : paper + off;
        }
    }

    static class Tried extends Thing {
        @Override int shares(int x) {
            trace.add(20);
            return super.shares(x) - span;
        }
    }

    static class Taken extends Thing {
        @Override int takes(int x) {
            trace.add(30);
            return super.takes(x) * 3;
        }
    }

    static class Drifting extends Thing {
        @Override int tells(int x) {
            trace.add(40);
            return super.tells(x) + bounds(number);
        }

        @Override int takesOn(int day) {
            return day < from ? paper : paper + (off * (day - from)) / 10;
        }
    }

    static class Loose extends Thing {
        @Override int bounds(int x) {
            trace.add(50);
            return super.bounds(x + 2) ^ 1;
        }

        @Override int takes(int x) {
            trace.add(51);
            return 0 - super.takes(x);
        }
    }

    static class Short extends Loose {
        @Override int shares(int x) {
            trace.add(60);
            return super.shares(x) + takes(span);
        }

        @Override int bounds(int x) {
            trace.add(61);
            return super.bounds(x) * 2;
        }
    }

    static class Other extends Tried {
        @Override int takes(int x) {
            trace.add(70);
            return super.takes(x) - 4;
        }

        @Override int tells(int x) {
            trace.add(71);
            return super.tells(x) ^ shares(number);
        }
    }

    private static Thing thing(int kind) {
        Thing[] all = {new Thing(), new Tried(), new Taken(), new Drifting(), new Loose(), new Short(), new Other()};
        return all[kind];
    }

    private static final List<Class<? extends Thing>> KINDS =
            List.of(Thing.class, Tried.class, Taken.class, Drifting.class, Loose.class, Short.class, Other.class);

    private static Thing copy(Thing t) {
        Thing c = thing(t.kind);
        c.kind = t.kind;
        c.ways = t.ways;
        c.paper = t.paper;
        c.span = t.span;
        c.hours = t.hours;
        c.believed = t.believed;
        c.off = t.off;
        c.from = t.from;
        c.number = t.number;
        c.tried = t.tried;
        return c;
    }

    record Run(int day, int way, int soon) { }

    record Token(String text, int place) {
        boolean isNumber() {
            return text.matches("[0-9]{1,4}");
        }
    }

    record Tale(int weight, List<String> words) { }

    record Fraction(BigInteger above, BigInteger below) {
        static Fraction of(long above, long below) {
            BigInteger a = BigInteger.valueOf(above), b = BigInteger.valueOf(below), g = a.gcd(b);
            return new Fraction(a.divide(g), b.divide(g));
        }

        Fraction less(Fraction o) {
            BigInteger a = above.multiply(o.below).subtract(o.above.multiply(below));
            BigInteger b = below.multiply(o.below), g = a.gcd(b);
            return new Fraction(a.divide(g), b.divide(g));
        }

        boolean isFurther(Fraction o) {
            return above.abs().multiply(o.below).compareTo(o.above.abs().multiply(below)) > 0;
        }

        long part(int p) {
            return (p == 0 ? above : below).longValueExact();
        }
    }

    static final class World {
        int day, noise, spent;
        int z = 1;
        List<Thing> parts = new ArrayList<>();
        List<Run> runs = new ArrayList<>();
        List<Tale> stories = new ArrayList<>();
        List<List<String>> houses = new ArrayList<>();

        World copied() {
            World w = new World();
            w.day = day;
            w.noise = noise;
            w.spent = spent;
            w.z = z;
            parts.forEach(p -> w.parts.add(copy(p)));
            w.runs.addAll(runs);
            w.stories.addAll(stories);
            w.houses.addAll(houses);
            return w;
        }
    }

    private World w = new World();
    private World kept = null;
    private final List<Integer> tape = new ArrayList<>();
    private final List<int[]> rows = new ArrayList<>();
    private final Object[] sheets = new Object[4];
    private final Object[] shelves = new Object[4];
    private List<Integer> trace = new ArrayList<>();

    private static boolean in(long v, long low, long high) {
        return low <= v && v <= high;
    }

    private List<Thing> ofWay(int way) {
        return w.parts.stream().filter(p -> (p.ways & (way == 0 ? 1 : 2)) != 0).toList();
    }

    private List<Run> runsOf(int way) {
        return w.runs.stream().filter(r -> r.way == way).toList();
    }

    // ---- parts, runs, trials

    public int part(int kind, int ways, int paper, int span, int hours) {
        if (!in(kind, 0, 6) || !in(ways, 1, 3) || !in(paper, 0, 9999) || !in(span, 0, 99) || !in(hours, 1, 60)) {
            return BAD;
        }
        if (w.parts.size() == 10) {
            return FULL;
        }
        Thing t = thing(kind);
        t.kind = kind;
        t.ways = ways;
        t.paper = paper;
        t.believed = paper;
        t.span = span;
        t.hours = hours;
        t.number = w.parts.size();
        w.parts.add(t);
        return t.number;
    }

    public int of(int i, int what) {
        if (!in(i, 0, w.parts.size() - 1) || !in(what, 0, 6)) {
            return NO;
        }
        Thing t = w.parts.get(i);
        return new int[] {t.kind, t.ways, t.paper, t.span, t.hours, t.believed, t.tried ? 1 : 0}[what];
    }

    public int fail(int i, int off, int day) {
        if (!in(i, 0, w.parts.size() - 1) || !in(off, -500, 500) || !in(day, 0, 999)) {
            return NO;
        }
        w.parts.get(i).off = off;
        w.parts.get(i).from = day;
        return w.parts.get(i).takesOn(w.day);
    }

    public int later(int n) {
        if (!in(n, 1, 99)) {
            return BAD;
        }
        return w.day + n > 999 ? FULL : (w.day += n);
    }

    public int noise(int n) {
        if (!in(n, 0, 20)) {
            return BAD;
        }
        int was = w.noise;
        w.noise = n;
        return was;
    }

    public int lots(int v) {
        w.z = v;
        return 1;
    }

    public int run(int way) {
        if (!in(way, 0, 1)) {
            return BAD;
        }
        if (w.runs.size() == 40) {
            return FULL;
        }
        int sum = ofWay(way).stream().mapToInt(p -> p.takesOn(w.day) - p.believed).sum();
        w.z = BigInteger.valueOf(w.z).multiply(BigInteger.valueOf(1103515245)).add(BigInteger.valueOf(12345)).intValue();
        long high = (w.z & 0xffffffffL) >> 16;
        w.runs.add(new Run(w.day, way, (int) (sum + high % (2 * w.noise + 1) - w.noise)));
        return w.runs.size() - 1;
    }

    public int older(int day, int way, int soon) {
        if (!in(day, 0, w.day) || !in(way, 0, 1) || !in(soon, -9999, 9999)) {
            return BAD;
        }
        if (w.runs.size() == 40) {
            return FULL;
        }
        w.runs.add(new Run(day, way, soon));
        return w.runs.size() - 1;
    }

    public int ran(int i, int what) {
        if (!in(i, 0, w.runs.size() - 1) || !in(what, 0, 2)) {
            return NO;
        }
        Run r = w.runs.get(i);
        return what == 0 ? r.day : what == 1 ? r.way : r.soon;
    }

    public int tryout(int i, boolean through) {
        if (!in(i, 0, w.parts.size() - 1)) {
            return NO;
        }
        Thing t = w.parts.get(i);
        int was = t.believed;
        t.believed = through && t instanceof Loose ? was : t.takesOn(w.day);
        t.tried = true;
        w.spent += t.hours;
        return t.believed - was;
    }

    // ---- texts: each method tells all places where what it reads may end; the furthest that stood in the way is the fault

    private List<Token> tokens;
    private int furthest;

    private void cutTape() {
        tokens = new ArrayList<>();
        StringBuilder all = new StringBuilder();
        tape.forEach(b -> all.append((char) (int) b));
        var m = java.util.regex.Pattern.compile("[a-z]+|[0-9]+|[^ ]", java.util.regex.Pattern.DOTALL).matcher(all);
        while (m.find()) {
            tokens.add(new Token(m.group(), m.start()));
        }
        tokens.add(new Token("", tape.size()));
        tape.clear();
        furthest = 0;
    }

    private List<String> words() {
        return tokens.stream().map(Token::text).filter(t -> !t.isEmpty()).toList();
    }

    private int fault() {
        return -100 - tokens.get(furthest).place;
    }

    private Set<Integer> one(Set<Integer> from, String... texts) {
        Set<Integer> ends = new TreeSet<>();
        for (int at : from) {
            if (at < tokens.size() && List.of(texts).contains(tokens.get(at).text)) {
                ends.add(at + 1);
            } else {
                furthest = Math.max(furthest, Math.min(at, tokens.size() - 1));
            }
        }
        return ends;
    }

    private Set<Integer> number(Set<Integer> from) {
        Set<Integer> ends = new TreeSet<>();
        for (int at : from) {
            if (at < tokens.size() && tokens.get(at).isNumber()) {
                ends.add(at + 1);
            } else {
                furthest = Math.max(furthest, Math.min(at, tokens.size() - 1));
            }
        }
        return ends;
    }

    private static Set<Integer> union(Set<Integer> a, Set<Integer> b) {
        Set<Integer> both = new TreeSet<>(a);
        both.addAll(b);
        return both;
    }

    private Set<Integer> signedNumber(Set<Integer> from) {
        return union(number(from), number(one(from, "-")));
    }

    private Set<Integer> clause(Set<Integer> from) {
        Set<Integer> by = signedNumber(one(number(one(from, "part")), "by"));
        return union(by, number(one(by, "from")));
    }

    private Set<Integer> tale(Set<Integer> from) {
        Set<Integer> ends = union(one(from, "nothing"), signedNumber(one(one(from, "light"), "by")));
        Set<Integer> clauses = clause(from);
        for (int k = 0; k < 4; k++) {
            ends = union(ends, clauses);
            if (k < 3) {
                clauses = clause(one(clauses, "and"));
            }
        }
        return ends;
    }

    interface Reads {
        Set<Integer> read(Set<Integer> from);
    }

    private Set<Integer> chain(Set<Integer> from, Reads inner, String... joints) {
        Set<Integer> ends = inner.read(from);
        Set<Integer> last = ends;
        for (int k = 0; k < 201 && !last.isEmpty(); k++) {
            last = inner.read(one(last, joints));
            ends = union(ends, last);
        }
        return ends;
    }

    private Set<Integer> either(Set<Integer> from, int open) {
        return chain(from, f -> chain(f, g -> single(g, open), "and"), "or");
    }

    private Set<Integer> single(Set<Integer> from, int open) {
        if (from.isEmpty()) {
            return from;
        }
        Set<Integer> ends = sum(one(sum(from, open), "<", "=", ">"), open);
        if (open < 4) {
            ends = union(ends, single(one(from, "not"), open + 1));
            ends = union(ends, one(either(one(from, "("), open + 1), ")"));
        }
        return ends;
    }

    private Set<Integer> sum(Set<Integer> from, int open) {
        return chain(from, f -> chain(f, g -> atom(g, open), "*"), "+", "-");
    }

    private Set<Integer> atom(Set<Integer> from, int open) {
        if (from.isEmpty()) {
            return from;
        }
        Set<Integer> ends = union(number(from), one(from, "day", "runs", "soon", "tried", "spent", "miss", "signed"));
        return open < 4 ? union(ends, atom(one(from, "-"), open + 1)) : ends;
    }

    // ---- stories

    public int feed(long eight, int n) {
        if (!in(n, 1, 8)) {
            return BAD;
        }
        if (tape.size() + n > 200) {
            return FULL;
        }
        for (int k = 0; k < n; k++) {
            tape.add(BigInteger.valueOf(eight).shiftRight(8 * k).and(BigInteger.valueOf(255)).intValue());
        }
        return tape.size();
    }

    public int story(int weight) {
        if (!in(weight, 1, 99)) {
            return BAD;
        }
        if (w.stories.size() == 8) {
            return FULL;
        }
        cutTape();
        if (one(tale(Set.of(0)), "").isEmpty()) {
            return fault();
        }
        w.stories.add(new Tale(weight, words()));
        return w.stories.size() - 1;
    }

    /** Clauses as {part, by, from}. */
    private static List<int[]> clauses(Tale tale) {
        List<int[]> all = new ArrayList<>();
        if (!tale.words.get(0).equals("part")) {
            return all;
        }
        for (String text : String.join(" ", tale.words).split(" and ")) {
            String[] t = text.replace("- ", "-").split(" ");
            all.add(new int[] {Integer.parseInt(t[1]), Integer.parseInt(t[3]), t.length > 4 ? Integer.parseInt(t[5]) : 0});
        }
        return all;
    }

    private int told(Tale tale, int way, int day) {
        if (tale.words.get(0).equals("light")) {
            return Integer.parseInt(String.join("", tale.words.subList(2, tale.words.size())));
        }
        int sum = 0;
        for (int[] c : clauses(tale)) {
            for (Thing t : ofWay(way)) {
                sum += t.number == c[0] && c[2] <= day ? c[1] : 0;
            }
        }
        return sum;
    }

    private int found(Tale tale, int i, int day) {
        return clauses(tale).stream().filter(c -> c[0] == i && c[2] <= day).mapToInt(c -> c[1]).sum();
    }

    private int missOf(Tale tale) {
        return w.runs.stream().mapToInt(r -> Math.abs(r.soon - told(tale, r.way, r.day))).sum();
    }

    public int gives(int s, int way, int day) {
        return in(s, 0, w.stories.size() - 1) && in(way, 0, 1) && in(day, 0, 999) ? told(w.stories.get(s), way, day) : NO;
    }

    public int finds(int s, int i) {
        return in(s, 0, w.stories.size() - 1) && in(i, 0, w.parts.size() - 1) ? found(w.stories.get(s), i, w.day) : NO;
    }

    public int miss(int s) {
        return in(s, 0, w.stories.size() - 1) ? missOf(w.stories.get(s)) : BAD;
    }

    public int likely() {
        int least = w.stories.stream().mapToInt(this::missOf).min().orElse(-1);
        for (int s = 0; s < w.stories.size(); s++) {
            if (missOf(w.stories.get(s)) == least) {
                return s;
            }
        }
        return NONE;
    }

    private BigInteger worth(Tale tale) {
        BigInteger v = BigInteger.valueOf(tale.weight);
        for (Run r : w.runs.subList(w.runs.size() > 12 ? w.runs.size() - 12 : 0, w.runs.size())) {
            int far = Math.abs(r.soon - told(tale, r.way, r.day));
            v = v.multiply(BigInteger.valueOf(far > 40 ? 1 : far > 10 ? 2 : far > 2 ? 4 : 8));
        }
        return v;
    }

    public long odds(int s, int part) {
        if (!in(s, 0, w.stories.size() - 1) || !in(part, 0, 1)) {
            return BAD;
        }
        BigInteger all = w.stories.stream().map(this::worth).reduce(BigInteger.ZERO, BigInteger::add);
        return Fraction.of(worth(w.stories.get(s)).longValueExact(), all.longValueExact()).part(part);
    }

    public int same(int a, int b, int day) {
        int last = w.stories.size() - 1;
        if (!in(a, 0, last) || !in(b, 0, last) || !in(day, 0, 999)) {
            return BAD;
        }
        return (gives(a, 0, day) == gives(b, 0, day) ? 1 : 0) + (gives(a, 1, day) == gives(b, 1, day) ? 2 : 0);
    }

    private boolean isNoSet(int stories) {
        return !in(stories, 0, (1 << w.stories.size()) - 1);
    }

    private List<Tale[]> twosOf(int stories) {
        List<Tale[]> twos = new ArrayList<>();
        for (int a = 0; a < 8; a++) {
            for (int b = a + 1; b < 8; b++) {
                if ((stories & 1 << a) != 0 && (stories & 1 << b) != 0) {
                    twos.add(new Tale[] {w.stories.get(a), w.stories.get(b)});
                }
            }
        }
        return twos;
    }

    private boolean parts(Thing t, Tale[] two) {
        return found(two[0], t.number, w.day) != found(two[1], t.number, w.day);
    }

    public int next(int stories, int what) {
        if (isNoSet(stories) || !in(what, 0, 1)) {
            return BAD;
        }
        List<Tale[]> twos = twosOf(stories);
        Map<Thing, Long> counts = new HashMap<>();
        w.parts.forEach(t -> counts.put(t, twos.stream().filter(two -> parts(t, two)).count()));
        return w.parts.stream().filter(t -> counts.get(t) > 0)
                .min(Comparator.comparing((Thing t) -> -counts.get(t)).thenComparing(t -> t.hours).thenComparing(t -> t.number))
                .map(t -> what == 0 ? t.number : (int) (long) counts.get(t)).orElse(NONE);
    }

    public int least(int stories, int what) {
        if (isNoSet(stories) || !in(what, 0, 1)) {
            return BAD;
        }
        List<Integer> masks = new ArrayList<>();
        for (Tale[] two : twosOf(stories)) {
            masks.add(w.parts.stream().filter(t -> parts(t, two)).mapToInt(t -> 1 << t.number).sum());
        }
        int bestHours = Integer.MAX_VALUE;
        int best = 0;
        for (int set = 0; set < 1 << w.parts.size(); set++) {
            int chosen = set;
            int hours = w.parts.stream().filter(t -> (chosen & 1 << t.number) != 0).mapToInt(t -> t.hours).sum();
            if (hours < bestHours && masks.stream().allMatch(m -> m == 0 || (m & chosen) != 0)) {
                bestHours = hours;
                best = set;
            }
        }
        return what == 0 ? best : bestHours;
    }

    // ---- how sure

    public int span(int way, int what) {
        if (!in(way, 0, 1) || !in(what, 0, 1)) {
            return BAD;
        }
        int sum = ofWay(way).stream().mapToInt(t -> t.span).sum();
        return what == 0 ? sum : BigInteger.valueOf(ofWay(way).stream().mapToInt(t -> t.span * t.span).sum()).sqrt().intValue();
    }

    public int sure(int way) {
        if (!in(way, 0, 1)) {
            return BAD;
        }
        List<Run> runs = runsOf(way);
        if (runs.isEmpty()) {
            return NONE;
        }
        int root = span(way, 1);
        return root == 0 ? -15 : Math.abs(runs.stream().mapToInt(Run::soon).sum()) / (runs.size() * root);
    }

    public int could(int way, int x) {
        if (!in(way, 0, 1) || !in(x, -9999, 9999)) {
            return BAD;
        }
        return ofWay(way).stream().filter(t -> t.span >= Math.abs(x)).mapToInt(t -> 1 << t.number).sum();
    }

    public int fits(int way, int x) {
        if (!in(way, 0, 1) || !in(x, -9999, 9999)) {
            return BAD;
        }
        int count = 0;
        for (Thing i : ofWay(way)) {
            for (Thing j : ofWay(way)) {
                for (int a = -i.span; i.number < j.number && a <= i.span; a++) {
                    count += a != 0 && x - a != 0 && Math.abs(x - a) <= j.span ? 1 : 0;
                }
            }
        }
        return count;
    }

    private static Fraction mean(List<Run> runs) {
        return Fraction.of(runs.stream().mapToInt(Run::soon).sum(), runs.size());
    }

    public long jump(int way, int what) {
        if (!in(way, 0, 1) || !in(what, 0, 2) || runsOf(way).size() < 2) {
            return NO;
        }
        List<Run> runs = new ArrayList<>(runsOf(way));
        runs.sort(Comparator.comparing(Run::day));
        Fraction best = null;
        int day = 0;
        for (int cut = 1; cut < runs.size(); cut++) {
            Fraction rise = mean(runs.subList(cut, runs.size())).less(mean(runs.subList(0, cut)));
            if (best == null || rise.isFurther(best)) {
                best = rise;
                day = runs.get(cut).day;
            }
        }
        return what == 0 ? day : best.part(what - 1);
    }

    public long month(int m, int way, int part) {
        if (!in(m, 0, 33) || !in(way, 0, 1) || !in(part, 0, 1)) {
            return NO;
        }
        List<Run> runs = runsOf(way).stream().filter(r -> r.day / 30 == m).toList();
        return runs.isEmpty() ? NO : mean(runs).part(part);
    }

    // ---- houses

    public int house() {
        if (w.houses.size() == 8) {
            return FULL;
        }
        cutTape();
        if (one(either(Set.of(0), 0), "").isEmpty()) {
            return fault();
        }
        w.houses.add(words());
        return w.houses.size() - 1;
    }

    public int fact(int which) {
        List<Run> first = runsOf(0);
        switch (which) {
            case 0: return w.day;
            case 1: return w.runs.size();
            case 2: return first.isEmpty() ? 0 : first.stream().mapToInt(Run::soon).sum() / first.size();
            case 3: return (int) w.parts.stream().filter(t -> t.tried).count();
            case 4: return w.spent;
            case 5: return w.stories.stream().mapToInt(this::missOf).min().orElse(0);
            case 6: return 0;
            default: return NO;
        }
    }

    private static List<List<String>> split(List<String> words, String joint) {
        List<List<String>> all = new ArrayList<>();
        all.add(new ArrayList<>());
        int deep = 0;
        for (String word : words) {
            deep += word.equals("(") ? 1 : word.equals(")") ? -1 : 0;
            if (deep == 0 && word.equals(joint)) {
                all.add(new ArrayList<>());
            } else {
                all.get(all.size() - 1).add(word);
            }
        }
        return all;
    }

    private boolean met(List<String> rule, int signed) {
        List<List<String>> ors = split(rule, "or");
        if (ors.size() > 1) {
            return ors.stream().anyMatch(o -> met(o, signed));
        }
        List<List<String>> ands = split(rule, "and");
        if (ands.size() > 1) {
            return ands.stream().allMatch(o -> met(o, signed));
        }
        if (rule.get(0).equals("not")) {
            return !met(rule.subList(1, rule.size()), signed);
        }
        if (rule.get(0).equals("(")) {
            return met(rule.subList(1, rule.size() - 1), signed);
        }
        for (String sign : List.of("<", "=", ">")) {
            List<List<String>> sides = split(rule, sign);
            if (sides.size() == 2) {
                int c = Integer.compare(value(sides.get(0), signed), value(sides.get(1), signed));
                return sign.equals("<") ? c < 0 : sign.equals("=") ? c == 0 : c > 0;
            }
        }
        throw new IllegalStateException("no rule: " + rule);
    }

    private int value(List<String> sum, int signed) {
        BigInteger all = BigInteger.ZERO, term = BigInteger.ONE;
        boolean begins = true;
        boolean minus = false;
        for (String word : sum) {
            if (begins && word.equals("-")) {
                minus = !minus;
            } else if (begins) {
                int at = List.of("day", "runs", "soon", "tried", "spent", "miss", "signed").indexOf(word);
                long v = at < 0 ? Long.parseLong(word) : at == 6 ? signed : fact(at);
                term = term.multiply(BigInteger.valueOf(minus ? -v : v));
                begins = false;
            } else {
                begins = true;
                minus = word.equals("-");
                if (!word.equals("*")) {
                    all = all.add(term);
                    term = BigInteger.ONE;
                }
            }
        }
        return all.add(term).intValue();
    }

    public int holds(int h, int signed) {
        return in(h, 0, w.houses.size() - 1) && in(signed, 0, 8) ? met(w.houses.get(h), signed) ? 1 : 0 : BAD;
    }

    public int sign() {
        Set<Integer> have = new TreeSet<>();
        boolean again = true;
        while (again) {
            again = false;
            for (int h = 0; h < w.houses.size(); h++) {
                if (!have.contains(h) && met(w.houses.get(h), have.size())) {
                    have.add(h);
                    again = true;
                }
            }
        }
        return have.stream().mapToInt(h -> 1 << h).sum();
    }

    // ---- rows

    private List<int[]> rowsOf(int way) {
        List<int[]> all = new ArrayList<>();
        int sum = 0;
        for (Thing t : ofWay(way)) {
            int late = t.takesOn(w.day) - t.believed;
            sum += late;
            all.add(new int[] {t.number, late, sum});
        }
        return all;
    }

    public int prove(int way) {
        if (!in(way, 0, 1)) {
            return BAD;
        }
        rows.clear();
        rows.addAll(rowsOf(way));
        return rows.size();
    }

    public int row(int i, int what) {
        return in(i, 0, rows.size() - 1) && in(what, 0, 2) ? rows.get(i)[what] : NO;
    }

    public int alterRow(int i, int what, int v) {
        int was = row(i, what);
        if (in(i, 0, rows.size() - 1) && in(what, 0, 2)) {
            rows.get(i)[what] = v;
        }
        return was;
    }

    public int judge(int way) {
        if (!in(way, 0, 1)) {
            return BAD;
        }
        List<int[]> right = rowsOf(way);
        for (int i = 0; i < rows.size(); i++) {
            if (i >= right.size() || !java.util.Arrays.equals(rows.get(i), right.get(i))) {
                return i + 1;
            }
        }
        return rows.size() < right.size() ? 222 : 0;
    }

    // ---- the host

    private static final List<Class<?>> SORTS = List.of(byte[].class, short[].class, int[].class, long[].class);
    private static final Class<?>[] ITEMS = {byte.class, short.class, int.class, long.class};

    public int sheet(int sheet, int sort, int n) {
        if (!in(sheet, 0, 3) || !in(sort, -1, 3) || sort >= 0 && n > 40) {
            return BAD;
        }
        if (sort >= 0 && n < 0) {
            return -14;
        }
        sheets[sheet] = sort < 0 ? null : java.lang.reflect.Array.newInstance(ITEMS[sort], n);
        return 1;
    }

    public int put(int sheet, int i, int v) {
        if (!in(sheet, 0, 3)) {
            return BAD;
        }
        Object row = sheets[sheet];
        if (row == null) {
            return -11;
        }
        if (!in(i, 0, java.lang.reflect.Array.getLength(row) - 1)) {
            return -12;
        }
        if (row instanceof byte[] b) {
            b[i] = (byte) v;
        } else if (row instanceof short[] s) {
            s[i] = (short) v;
        } else if (row instanceof int[] n) {
            n[i] = v;
        } else {
            ((long[]) row)[i] = v;
        }
        return 1;
    }

    public int item(int sheet, int sort, int i) {
        if (!in(sheet, 0, 3) || !in(sort, 0, 3)) {
            return BAD;
        }
        Object row = sheets[sheet];
        if (row == null) {
            return -11;
        }
        if (!SORTS.get(sort).isInstance(row)) {
            return -13;
        }
        return in(i, 0, java.lang.reflect.Array.getLength(row) - 1) ? (int) java.lang.reflect.Array.getLong(row, i) : -12;
    }

    public int shelf(int shelf, int what, int n) {
        if (!in(shelf, 0, 3) || !in(what, 0, 2) || what == 0 && !in(n, 0, w.parts.size() - 1) || what == 1 && !in(n, 0, 3)) {
            return BAD;
        }
        shelves[shelf] = what == 0 ? (Object) n : what == 1 ? sheets[n] : null;
        return 1;
    }

    private Object held(int shelf) {
        Object o = shelves[shelf];
        return o instanceof Integer n ? n < w.parts.size() ? w.parts.get(n) : null : o;
    }

    public int taken(int shelf, int as) {
        if (!in(shelf, 0, 3) || !in(as, 0, 6) && !in(as, 10, 13)) {
            return BAD;
        }
        Object o = held(shelf);
        if (o == null) {
            return -11;
        }
        Class<?> c = as < 7 ? KINDS.get(as) : SORTS.get(as - 10);
        return !c.isInstance(o) ? -13 : o instanceof Thing t ? t.number : java.lang.reflect.Array.getLength(o);
    }

    public int act(int shelf, int act, int x) {
        trace = new ArrayList<>();
        if (!in(shelf, 0, 3) || !in(act, 0, 3) || !(held(shelf) instanceof Thing)) {
            return 0;
        }
        Thing t = (Thing) held(shelf);
        t.trace = trace;
        try {
            return act == 0 ? t.takes(x) : act == 1 ? t.shares(x) : act == 2 ? t.bounds(x) : t.tells(x);
        } catch (IllegalStateException parted) {
            return -15;
        }
    }

    public int trace(int i) {
        return in(i, 0, Math.min(trace.size(), 30) - 1) ? trace.get(i) : NONE;
    }

    public int many(int what) {
        int[] all = {w.parts.size(), w.runs.size(), w.stories.size(), w.houses.size(), rows.size(), tape.size(),
            Math.min(trace.size(), 30), w.day};
        return in(what, 0, 7) ? all[what] : BAD;
    }

    // ---- kept

    public int keep() {
        kept = w.copied();
        return 1;
    }

    public int back() {
        if (kept == null) {
            return NONE;
        }
        w = kept.copied();
        return w.day;
    }
}
