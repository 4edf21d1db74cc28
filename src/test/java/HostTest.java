/** Promises 36 to 43: the host. */
final class HostTest {
    private static final int BAD = -1, NONE = -3;

    public static void main(String[] args) {
        promise36();
        promise37();
        promise38();
        promise39();
        promise40();
        promise41();
        byZero();
        promise42();
        promise43();
        Check.end();
    }

    private static void promise36() {
        LoosePlug x = new LoosePlug();
        Check.due("sheet -1", x.sheet(-1, 0, 1), BAD);
        Check.due("sheet 4", x.sheet(4, 0, 1), BAD);
        Check.due("sort -2", x.sheet(0, -2, 1), BAD);
        Check.due("sort 4", x.sheet(0, 4, 1), BAD);
        Check.due("n 41", x.sheet(0, 0, 41), BAD);
        Check.due("n -1", x.sheet(0, 0, -1), -14);
        Check.due("bad ahead of below 0", x.sheet(4, 0, -1), BAD);
        Check.due("sort ahead of below 0", x.sheet(0, 4, -1), BAD);
        Check.due("still missing", x.put(0, 0, 0), -11);
        for (int sort = 0; sort < 4; sort++) {
            Check.due("40", x.sheet(sort, sort, 40), 1);
            Check.due("the last", x.put(sort, 39, 7), 1);
            Check.due("beyond", x.put(sort, 40, 7), -12);
            Check.due("refused", x.sheet(sort, sort, -5), -14);
            Check.due("refused changes nothing", x.item(sort, sort, 39), 7);
            Check.due("anew", x.sheet(sort, sort, 40), 1);
            Check.due("all 0", x.item(sort, sort, 39), 0);
        }
        Check.due("empty", x.sheet(1, 2, 0), 1);
        Check.due("empty has no item", x.item(1, 2, 0), -12);
        Check.due("missing, n below 0", x.sheet(1, -1, -9), 1);
        Check.due("missing", x.item(1, 2, 0), -11);
        Check.due("missing, n above 40", x.sheet(2, -1, 41), 1);
    }

    private static void promise37() {
        LoosePlug x = new LoosePlug();
        for (int sort = 0; sort < 4; sort++) {
            x.sheet(sort, sort, 3);
        }
        int[] values = {0, 127, 128, -128, -129, 255, 256, 32767, 32768, -32769, 65535, 65536,
            Integer.MAX_VALUE, Integer.MIN_VALUE};
        for (int v : values) {
            int[] due = {(byte) v, (short) v, v, v};
            for (int sort = 0; sort < 4; sort++) {
                Check.due("put", x.put(sort, 1, v), 1);
                Check.due("item of " + v, x.item(sort, sort, 1), due[sort]);
            }
        }
        Check.due("beside", x.item(2, 2, 0), 0);
        Check.due("beside", x.item(2, 2, 2), 0);
        Check.due("place -1", x.put(0, -1, 1), -12);
        Check.due("place 3", x.put(0, 3, 1), -12);
        Check.due("place least", x.put(0, Integer.MIN_VALUE, 1), -12);
        Check.due("sheet 4", x.put(4, 0, 1), BAD);
        Check.due("sheet -1", x.put(-1, 0, 1), BAD);
        x.sheet(0, -1, 0);
        Check.due("missing ahead of outside", x.put(0, 99, 1), -11);
    }

    private static void promise38() {
        LoosePlug x = new LoosePlug();
        Check.due("missing", x.item(0, 0, 0), -11);
        x.sheet(0, 1, 2);
        x.put(0, 1, -11);
        Check.due("item", x.item(0, 1, 1), -11);
        Check.due("another sort ahead of outside", x.item(0, 0, 9), -13);
        Check.due("another sort", x.item(0, 2, 0), -13);
        Check.due("another sort", x.item(0, 3, 0), -13);
        Check.due("outside", x.item(0, 1, 2), -12);
        Check.due("place -1", x.item(0, 1, -1), -12);
        Check.due("sort 4", x.item(0, 4, 0), BAD);
        Check.due("sort -1", x.item(0, -1, 0), BAD);
        Check.due("sort -1 of a missing one", x.item(1, -1, 0), BAD);
        Check.due("sheet 4", x.item(4, 0, 0), BAD);
        Check.due("sheet -1", x.item(-1, 0, 0), BAD);
    }

    private static void promise39() {
        LoosePlug x = new LoosePlug();
        x.part(1, 1, 1, 1, 1);
        Check.due("part 0", x.shelf(0, 0, 0), 1);
        Check.due("part 1", x.shelf(0, 0, 1), BAD);
        Check.due("part -1", x.shelf(0, 0, -1), BAD);
        Check.due("sheet 4", x.shelf(0, 1, 4), BAD);
        Check.due("sheet -1", x.shelf(0, 1, -1), BAD);
        Check.due("what 3", x.shelf(0, 3, 0), BAD);
        Check.due("what -1", x.shelf(0, -1, 0), BAD);
        Check.due("shelf 4", x.shelf(4, 0, 0), BAD);
        Check.due("shelf -1", x.shelf(-1, 2, 0), BAD);
        Check.due("still part 0", x.taken(0, 1), 0);
        Check.due("a missing row", x.shelf(0, 1, 3), 1);
        Check.due("nothing", x.taken(0, 1), -11);
        x.sheet(3, 2, 5);
        Check.due("nothing still", x.taken(0, 12), -11);
        Check.due("a row", x.shelf(0, 1, 3), 1);
        x.sheet(3, 1, 9);
        Check.due("the row as it was then", x.taken(0, 12), 5);
        x.sheet(3, -1, 0);
        Check.due("the row as it was then, though missing now", x.taken(0, 12), 5);
        Check.due("nothing, whatever n is", x.shelf(0, 2, 99), 1);
        Check.due("nothing", x.taken(0, 12), -11);
    }

    private static void promise40() {
        LoosePlug x = new LoosePlug();
        boolean[][] under = {
            {true, false, false, false, false, false, false},
            {true, true, false, false, false, false, false},
            {true, false, true, false, false, false, false},
            {true, false, false, true, false, false, false},
            {true, false, false, false, true, false, false},
            {true, false, false, false, true, true, false},
            {true, true, false, false, false, false, true}};
        for (int kind = 0; kind < 7; kind++) {
            x.part(kind, 1, 1, 1, 1);
            x.shelf(1, 0, kind);
            for (int as = 0; as < 7; as++) {
                Check.due("kind " + kind + " as " + as, x.taken(1, as), under[kind][as] ? kind : -13);
            }
            for (int as = 10; as < 14; as++) {
                Check.due("a part as a row", x.taken(1, as), -13);
            }
        }
        for (int sort = 0; sort < 4; sort++) {
            x.sheet(0, sort, sort * 13);
            x.shelf(2, 1, 0);
            for (int as = 0; as < 14; as++) {
                int due = as > 6 && as < 10 ? BAD : as == sort + 10 ? sort * 13 : -13;
                Check.due("sort " + sort + " as " + as, x.taken(2, as), due);
            }
        }
        for (int as = 0; as < 14; as++) {
            Check.due("nothing as " + as, x.taken(3, as), as > 6 && as < 10 ? BAD : -11);
        }
        Check.due("as -1", x.taken(3, -1), BAD);
        Check.due("as 14", x.taken(3, 14), BAD);
        Check.due("shelf 4", x.taken(4, 0), BAD);
        Check.due("shelf -1", x.taken(-1, 0), BAD);
    }

    /** What act() of shelf 0 answers, and which bodies ran. */
    static void actDue(LoosePlug x, int act, int v, int want, int... bodies) {
        String call = "act(0, " + act + ", " + v + ")";
        Check.due(call, x.act(0, act, v), want);
        Check.due(call + " bodies", x.many(6), bodies.length);
        for (int k = 0; k < bodies.length; k++) {
            Check.due(call + " body " + k, x.trace(k), bodies[k]);
        }
        Check.due(call + " no more", x.trace(bodies.length), NONE);
    }

    /** A plug with parts 0 and 1 ahead, and part 2 of a kind, with a span, on shelf 0. */
    private static LoosePlug withKind(int kind, int span) {
        LoosePlug x = new LoosePlug();
        x.part(0, 1, 1, 1, 1);
        x.part(0, 1, 1, 1, 1);
        x.part(kind, 1, 1, span, 1);
        x.shelf(0, 0, 2);
        return x;
    }

    /** n is 2 and a is 5 throughout. */
    private static void promise41() {
        LoosePlug x = withKind(0, 5);
        actDue(x, 0, 7, 9, 10);
        actDue(x, 1, 7, 18, 11, 10);
        actDue(x, 2, 7, 2, 12);
        actDue(x, 2, -7, -2, 12);
        actDue(x, 3, 7, 18 ^ 5, 13, 11, 10);
        actDue(x, 0, Integer.MAX_VALUE, Integer.MIN_VALUE + 1, 10);
        x = withKind(1, 5);
        actDue(x, 0, 7, 9, 10);
        actDue(x, 1, 7, 13, 20, 11, 10);
        actDue(x, 3, 7, 13 ^ 5, 13, 20, 11, 10);
        actDue(x, 2, 7, 2, 12);
        x = withKind(2, 5);
        actDue(x, 0, 7, 27, 30, 10);
        actDue(x, 1, 7, 54, 11, 30, 10);
        actDue(x, 2, 7, 2, 12);
        actDue(x, 3, 7, 54 ^ 5, 13, 11, 30, 10);
        x = withKind(3, 5);
        actDue(x, 0, 7, 9, 10);
        actDue(x, 1, 7, 18, 11, 10);
        actDue(x, 2, 8, 2, 12);
        actDue(x, 3, 7, (18 ^ 5) + 0, 40, 13, 11, 10, 12);
        x = withKind(4, 5);
        actDue(x, 0, 7, -9, 51, 10);
        actDue(x, 1, 7, -18, 11, 51, 10);
        actDue(x, 2, 7, 3 ^ 1, 50, 12);
        actDue(x, 2, 6, 2 ^ 1, 50, 12);
        actDue(x, 2, Integer.MAX_VALUE, (Integer.MIN_VALUE + 1) / 3 ^ 1, 50, 12);
        actDue(x, 3, 7, -18 ^ 5, 13, 11, 51, 10);
        x = withKind(5, 5);
        actDue(x, 0, 7, -9, 51, 10);
        actDue(x, 1, 7, -18 - 7, 60, 11, 51, 10, 51, 10);
        actDue(x, 2, 7, (3 ^ 1) * 2, 61, 50, 12);
        actDue(x, 3, 7, -25 ^ 5, 13, 60, 11, 51, 10, 51, 10);
        x = withKind(6, 5);
        actDue(x, 0, 7, 5, 70, 10);
        actDue(x, 1, 7, 5, 20, 11, 70, 10);
        actDue(x, 2, 7, 2, 12);
        actDue(x, 3, 7, 5 ^ 5 ^ -5, 71, 13, 20, 11, 70, 10, 20, 11, 70, 10);
        noAct();
    }

    private static void noAct() {
        LoosePlug x = withKind(0, 5);
        int[][] none = {{-1, 0}, {4, 0}, {0, -1}, {0, 4}, {1, 0}, {2, 0}, {Integer.MAX_VALUE, 0}, {0, Integer.MIN_VALUE}};
        x.sheet(0, 0, 4);
        x.shelf(2, 1, 0);
        for (int[] n : none) {
            actDue(x, 3, 7, 18 ^ 5, 13, 11, 10);
            Check.due("no act", x.act(n[0], n[1], 7), 0);
            Check.due("no trace", x.many(6), 0);
            Check.due("no body", x.trace(0), NONE);
        }
    }

    /** The span is the part's number, 2; and below it, so that the divisor is -1. */
    private static void byZero() {
        actDue(withKind(0, 2), 2, 9, -15, 12);
        actDue(withKind(1, 2), 2, 9, -15, 12);
        actDue(withKind(4, 2), 2, 9, -15, 50, 12);
        actDue(withKind(5, 2), 2, 9, -15, 61, 50, 12);
        actDue(withKind(3, 2), 3, 9, -15, 40, 13, 11, 10, 12);
        LoosePlug x = withKind(0, 2);
        actDue(x, 2, 0, -15, 12);
        actDue(x, 0, 9, 11, 10);
        actDue(withKind(0, 1), 2, Integer.MIN_VALUE, Integer.MIN_VALUE, 12);
        actDue(withKind(0, 0), 2, 9, -4, 12);
        actDue(withKind(3, 0), 3, 9, 22 - 1, 40, 13, 11, 10, 12);
        actDue(withKind(0, 17), 2, -225, -15, 12);
    }

    private static void promise42() {
        LoosePlug x = withKind(0, 5);
        Check.due("none yet", x.trace(0), NONE);
        x.act(0, 3, 1);
        Check.due("trace -1", x.trace(-1), NONE);
        Check.due("trace 0", x.trace(0), 13);
        Check.due("trace 2", x.trace(2), 10);
        Check.due("trace 3", x.trace(3), NONE);
        Check.due("trace 30", x.trace(30), NONE);
        Check.due("trace most", x.trace(Integer.MAX_VALUE), NONE);
        Check.due("trace least", x.trace(Integer.MIN_VALUE), NONE);
        x.act(0, 0, 1);
        Check.due("the latest act", x.trace(0), 10);
        Check.due("the latest act alone", x.trace(1), NONE);
    }

    private static void promise43() {
        LoosePlug x = withKind(0, 5);
        x.later(3);
        x.run(0);
        x.run(0);
        for (int s = 0; s < 4; s++) {
            Check.story(x, "nothing", 1);
        }
        for (int h = 0; h < 5; h++) {
            Check.house(x, "1=1");
        }
        x.prove(0);
        Check.feed(x, "abcdef");
        x.act(0, 1, 1);
        int[] due = {3, 2, 4, 5, 3, 6, 2, 3};
        for (int what = 0; what < 8; what++) {
            Check.due("many(" + what + ")", x.many(what), due[what]);
        }
        Check.due("many(8)", x.many(8), BAD);
        Check.due("many(-1)", x.many(-1), BAD);
    }
}
