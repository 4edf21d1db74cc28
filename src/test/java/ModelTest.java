import java.lang.reflect.InvocationTargetException;
import java.lang.reflect.Method;
import java.util.ArrayList;
import java.util.Arrays;
import java.util.List;
import java.util.Random;

/** Random runs of 512 calls, wild numbers among them, on LoosePlug and SlowPlug: they must answer alike, and never throw. */
final class ModelTest {
    private static final int RUNS = 1500, CALLS = 512;
    private static final int[] WILD = {Integer.MIN_VALUE, Integer.MIN_VALUE + 1, -10000, -9999, -501, -1, 0, 1, 2, 7, 8, 10,
        31, 32, 40, 41, 99, 100, 255, 256, 500, 999, 1000, 9999, 10000, Integer.MAX_VALUE - 1, Integer.MAX_VALUE};

    /** Of each call its name, and the least and greatest of the numbers that are mostly tried. */
    private record Call(String name, int often, int... bounds) { }

    private static final List<Call> CALLS_OF_FACE = List.of(
        new Call("part", 12, -1, 7, 0, 3, -1, 400, -1, 99, 0, 61), new Call("of", 6, -1, 10, -1, 7),
        new Call("fail", 12, -1, 10, -500, 500, -1, 300), new Call("later", 6, 0, 40), new Call("noise", 2, -1, 21),
        new Call("lots", 1, -99, 99), new Call("run", 8, -1, 2), new Call("older", 10, -1, 200, -1, 2, -80, 80),
        new Call("ran", 8, -1, 40, -1, 3), new Call("tryout", 8, -1, 10, 0, 1), new Call("gives", 6, -1, 8, -1, 2, -1, 300),
        new Call("finds", 6, -1, 8, -1, 10), new Call("miss", 4, -1, 8), new Call("likely", 3), new Call("odds", 6, -1, 8, -1, 2),
        new Call("same", 4, -1, 8, -1, 8, -1, 300), new Call("next", 6, -1, 256, -1, 2), new Call("least", 6, -1, 256, -1, 2),
        new Call("span", 4, -1, 2, -1, 2), new Call("sure", 3, -1, 2), new Call("could", 3, -1, 2, -99, 99),
        new Call("fits", 4, -1, 2, -200, 200), new Call("jump", 6, -1, 2, -1, 3), new Call("month", 5, -1, 12, -1, 2, -1, 2),
        new Call("fact", 4, -1, 7), new Call("holds", 6, -1, 8, -1, 9), new Call("sign", 4), new Call("prove", 4, -1, 2),
        new Call("row", 5, -1, 10, -1, 3), new Call("alterRow", 3, -1, 10, -1, 3, -9, 9), new Call("judge", 5, -1, 2),
        new Call("sheet", 6, -1, 4, -2, 4, -1, 41), new Call("put", 5, -1, 4, -1, 40, -70000, 70000),
        new Call("item", 8, -1, 4, -1, 4, -1, 40), new Call("shelf", 6, -1, 4, -1, 3, -1, 10), new Call("taken", 8, -1, 4, -1, 14),
        new Call("act", 10, -1, 4, -1, 4, -300, 300), new Call("trace", 6, -1, 31), new Call("many", 5, -1, 8),
        new Call("keep", 1), new Call("back", 1), new Call("text", 16));

    private final Random random;
    private final LoosePlug fast = new LoosePlug();
    private final SlowPlug slow = new SlowPlug();
    private final int run;
    private final List<String> asked = new ArrayList<>();

    private ModelTest(int run) {
        this.run = run;
        random = new Random(run);
    }

    public static void main(String[] args) throws Exception {
        for (int run = 0; run < RUNS; run++) {
            new ModelTest(run).play();
        }
        Check.end();
    }

    private void play() throws Exception {
        List<Call> bag = new ArrayList<>();
        for (Call c : CALLS_OF_FACE) {
            int often = random.nextInt(3) == 0 ? 0 : c.often * (1 + random.nextInt(3));
            for (int k = 0; k < Math.max(often, c.name.equals("back") || c.name.equals("keep") ? 0 : 1); k++) {
                bag.add(c);
            }
        }
        int wildness = random.nextInt(4) == 0 ? 5 : 60;
        while (asked.size() < CALLS) {
            Call c = bag.get(random.nextInt(bag.size()));
            if (c.name.equals("text")) {
                tellText();
            } else {
                askNumbers(c, wildness);
            }
        }
    }

    private void askNumbers(Call c, int wildness) throws Exception {
        int[] numbers = new int[c.bounds.length / 2];
        for (int k = 0; k < numbers.length; k++) {
            int low = c.bounds[2 * k];
            int high = c.bounds[2 * k + 1];
            numbers[k] = random.nextInt(wildness) == 0 ? WILD[random.nextInt(WILD.length)] : low + random.nextInt(high - low + 1);
        }
        Object[] given = new Object[numbers.length];
        Class<?>[] types = new Class<?>[numbers.length];
        for (int k = 0; k < numbers.length; k++) {
            boolean truth = c.name.equals("tryout") && k == 1;
            given[k] = truth ? (Object) ((numbers[k] & 1) == 1) : (Object) numbers[k];
            types[k] = truth ? boolean.class : int.class;
        }
        ask(c.name, types, given);
    }

    private void tellText() throws Exception {
        boolean story = random.nextBoolean();
        StringBuilder text = new StringBuilder(story ? storyText() : ruleText(0));
        if (random.nextInt(3) == 0) {
            spoil(text);
        }
        int from = 0;
        while (from < text.length()) {
            int n = Math.min(random.nextInt(6) == 0 ? 1 + random.nextInt(8) : 8, text.length() - from);
            long eight = random.nextLong();
            for (int k = 0; k < n; k++) {
                eight = eight & ~(255L << 8 * k) | (long) text.charAt(from + k) << 8 * k;
            }
            ask("feed", new Class<?>[] {long.class, int.class}, new Object[] {eight, n});
            from += n;
        }
        if (story) {
            ask("story", new Class<?>[] {int.class}, new Object[] {random.nextInt(20) == 0 ? random.nextInt(3) * 50 : 1 + random.nextInt(99)});
        } else {
            ask("house", new Class<?>[0], new Object[0]);
        }
    }

    private void spoil(StringBuilder text) {
        String[] bits = {" ", "  ", "-", "(", ")", "and", "or", "not ", "5", "12345", "by", "from 3", "part 1 by 2", "\t", "\u00ff",
            "\u0000", "A", "a", "<", "=", "+", "*", "nothing", "light", "signed", "day"};
        for (int k = random.nextInt(3); k >= 0; k--) {
            int at = random.nextInt(text.length() + 1);
            switch (random.nextInt(3)) {
                case 0: text.insert(at, bits[random.nextInt(bits.length)]); break;
                case 1: text.setLength(at); break;
                default: text.delete(at, Math.min(text.length(), at + 1 + random.nextInt(3))); break;
            }
        }
    }

    private String storyText() {
        switch (random.nextInt(8)) {
            case 0: return blank() + "nothing" + blank();
            case 1: return "light by " + number();
            default: break;
        }
        StringBuilder text = new StringBuilder(blank());
        for (int k = random.nextInt(5); k >= 0; k--) {
            text.append("part ").append(random.nextInt(11)).append(" by ").append(number());
            if (random.nextInt(2) == 0) {
                text.append(" from ").append(random.nextInt(200));
            }
            text.append(k > 0 ? " and " : blank());
        }
        return text.toString();
    }

    private String blank() {
        return " ".repeat(random.nextInt(4) == 0 ? random.nextInt(3) : 0);
    }

    private String number() {
        return (random.nextInt(3) == 0 ? "-" : "") + blank() + (random.nextInt(9) == 0 ? 9000 + random.nextInt(1000) : random.nextInt(70));
    }

    private String ruleText(int deep) {
        StringBuilder text = new StringBuilder(oneText(deep));
        while (random.nextInt(3) == 0) {
            text.append(random.nextBoolean() ? " and " : " or ").append(oneText(deep));
        }
        return text.toString();
    }

    private String oneText(int deep) {
        int way = random.nextInt(5);
        if (way == 0 && deep < 6) {
            return "not " + oneText(deep + 1);
        }
        if (way == 1 && deep < 6) {
            return "(" + blank() + ruleText(deep + 1) + blank() + ")";
        }
        return sumText() + blank() + "<=>".charAt(random.nextInt(3)) + blank() + sumText();
    }

    private String sumText() {
        StringBuilder text = new StringBuilder();
        do {
            text.append(text.length() == 0 ? "" : "" + "+-*".charAt(random.nextInt(3))).append(blank());
            text.append("-".repeat(random.nextInt(5) == 0 ? random.nextInt(6) : 0));
            String[] facts = {"day", "runs", "soon", "tried", "spent", "miss", "signed", "signed", "signed"};
            text.append(random.nextBoolean() ? facts[random.nextInt(9)] : "" + random.nextInt(random.nextInt(3) == 0 ? 10000 : 6));
        } while (random.nextInt(3) == 0);
        return text.toString();
    }

    private void ask(String name, Class<?>[] types, Object[] given) throws Exception {
        // A text may need more calls than are left.
        if (asked.size() == CALLS) {
            return;
        }
        String call = name + Arrays.toString(given);
        asked.add(call);
        long want = answer(SlowPlug.class.getMethod(name, types), slow, given);
        long got;
        try {
            got = answer(LoosePlug.class.getMethod(name, types), fast, given);
        } catch (InvocationTargetException thrown) {
            System.out.println("run " + run + " threw " + thrown.getCause());
            got = want + 1;
        }
        Check.due("run " + run + ", call " + asked.size() + ": " + call, got, want);
    }

    private static long answer(Method method, Object plug, Object[] given) throws Exception {
        return ((Number) method.invoke(plug, given)).longValue();
    }
}
