/** Promises 1 to 11: parts, runs, trials. */
final class ChainTest {
    private static final int BAD = -1, FULL = -2, NONE = -3, NO = Integer.MIN_VALUE;
    private static final int[] FAR = {Integer.MIN_VALUE, -1000000, 1000000, Integer.MAX_VALUE};

    public static void main(String[] args) {
        promise1();
        promise2();
        promise3();
        promise4();
        drifting();
        promise5();
        promise6();
        promise7();
        promise8();
        promise9();
        promise10();
        promise11();
        Check.end();
    }

    private static void promise1() {
        LoosePlug x = new LoosePlug();
        for (int what = 0; what < 8; what++) {
            Check.due("new: many(" + what + ")", x.many(what), 0);
        }
        Check.due("new: of", x.of(0, 0), NO);
        Check.due("new: ran", x.ran(0, 0), NO);
        Check.due("new: likely", x.likely(), NONE);
        Check.due("new: back", x.back(), NONE);
        Check.due("new: row", x.row(0, 0), NO);
        Check.due("new: trace", x.trace(0), NONE);
        Check.due("new: noise", x.noise(0), 0);
        for (int s = 0; s < 4; s++) {
            Check.due("new: put", x.put(s, 0, 1), -11);
            Check.due("new: taken", x.taken(s, 0), -11);
        }
    }

    private static void promise2() {
        LoosePlug x = new LoosePlug();
        int[][] bad = {{-1, 1, 1, 1, 1}, {7, 1, 1, 1, 1}, {0, 0, 1, 1, 1}, {0, 4, 1, 1, 1}, {0, -1, 1, 1, 1},
            {0, 1, -1, 1, 1}, {0, 1, 10000, 1, 1}, {0, 1, 1, -1, 1}, {0, 1, 1, 100, 1}, {0, 1, 1, 1, 0}, {0, 1, 1, 1, 61}};
        for (int k = 0; k < bad.length; k++) {
            int[] b = bad[k];
            Check.due("part bad " + k, x.part(b[0], b[1], b[2], b[3], b[4]), BAD);
        }
        for (int far : FAR) {
            Check.due("part far kind", x.part(far, 1, 1, 1, 1), BAD);
            Check.due("part far ways", x.part(1, far, 1, 1, 1), BAD);
            Check.due("part far paper", x.part(1, 1, far, 1, 1), BAD);
            Check.due("part far span", x.part(1, 1, 1, far, 1), BAD);
            Check.due("part far hours", x.part(1, 1, 1, 1, far), BAD);
        }
        Check.due("part low", x.part(0, 1, 0, 0, 1), 0);
        Check.due("part high", x.part(6, 3, 9999, 99, 60), 1);
        for (int i = 2; i < 10; i++) {
            Check.due("part", x.part(i % 7, 2, i, i, i), i);
        }
        Check.due("part full", x.part(0, 1, 1, 1, 1), FULL);
        Check.due("part bad ahead of full", x.part(7, 1, 1, 1, 1), BAD);
        Check.due("parts", x.many(0), 10);
    }

    private static void promise3() {
        LoosePlug x = new LoosePlug();
        x.part(6, 3, 9999, 98, 59);
        x.part(2, 1, 17, 5, 3);
        int[] first = {6, 3, 9999, 98, 59, 9999, 0};
        int[] second = {2, 1, 17, 5, 3, 17, 0};
        for (int what = 0; what < 7; what++) {
            Check.due("of(0, " + what + ")", x.of(0, what), first[what]);
            Check.due("of(1, " + what + ")", x.of(1, what), second[what]);
        }
        Check.due("of(0, 7)", x.of(0, 7), NO);
        Check.due("of(0, -1)", x.of(0, -1), NO);
        Check.due("of(2, 0)", x.of(2, 0), NO);
        Check.due("of(-1, 0)", x.of(-1, 0), NO);
        Check.due("of(10, 0)", x.of(10, 0), NO);
        for (int far : FAR) {
            Check.due("of far", x.of(far, 0), NO);
            Check.due("of far what", x.of(0, far), NO);
        }
        x.fail(1, 4, 0);
        Check.due("believed stays", x.of(1, 5), 17);
        Check.due("paper stays", x.of(1, 2), 17);
        x.tryout(1, false);
        Check.due("believed after a trial", x.of(1, 5), 21);
        Check.due("tried", x.of(1, 6), 1);
        Check.due("other untried", x.of(0, 6), 0);
    }

    private static void promise4() {
        LoosePlug x = new LoosePlug();
        x.part(0, 1, 100, 5, 3);
        x.later(10);
        Check.due("from today", x.fail(0, 7, 10), 107);
        Check.due("from tomorrow", x.fail(0, 7, 11), 100);
        Check.due("from long ago, below 0", x.fail(0, -500, 0), -400);
        Check.due("most", x.fail(0, 500, 0), 600);
        Check.due("off 501", x.fail(0, 501, 0), NO);
        Check.due("off -501", x.fail(0, -501, 0), NO);
        Check.due("day -1", x.fail(0, 1, -1), NO);
        Check.due("day 1000", x.fail(0, 1, 1000), NO);
        Check.due("no such part", x.fail(1, 1, 0), NO);
        Check.due("part -1", x.fail(-1, 1, 0), NO);
        x.run(0);
        Check.due("refused ones changed nothing", x.ran(0, 2), 500);
        Check.due("day 999", x.fail(0, 1, 999), 100);
        x.run(0);
        Check.due("not yet", x.ran(1, 2), 0);
    }

    private static void drifting() {
        LoosePlug x = new LoosePlug();
        x.part(3, 3, 50, 1, 1);
        Check.due("drift today", x.fail(0, 9, 0), 50);
        x.later(1);
        Check.due("9 by 10", x.fail(0, 9, 0), 50);
        Check.due("-9 by 10 is cut", x.fail(0, -9, 0), 50);
        x.later(1);
        Check.due("18 by 10", x.fail(0, 9, 0), 51);
        Check.due("-18 by 10", x.fail(0, -9, 0), 49);
        Check.due("from day 1", x.fail(0, -10, 1), 49);
        Check.due("ahead of its day", x.fail(0, -10, 3), 50);
        for (int k = 0; k < 10; k++) {
            x.later(99);
        }
        x.later(7);
        Check.due("the last day", x.many(7), 999);
        Check.due("500 times 999 by 10", x.fail(0, 500, 0), 50 + 49950);
        Check.due("-500 times 999 by 10", x.fail(0, -500, 0), 50 - 49950);
    }

    private static void promise5() {
        LoosePlug x = new LoosePlug();
        Check.due("later(0)", x.later(0), BAD);
        Check.due("later(-1)", x.later(-1), BAD);
        Check.due("later(100)", x.later(100), BAD);
        Check.due("later(1)", x.later(1), 1);
        for (int k = 1; k <= 10; k++) {
            Check.due("later(99)", x.later(99), 1 + 99 * k);
        }
        Check.due("above 999", x.later(9), FULL);
        Check.due("bad ahead of full", x.later(Integer.MAX_VALUE), BAD);
        Check.due("stays", x.many(7), 991);
        Check.due("to 999", x.later(8), 999);
        Check.due("beyond", x.later(1), FULL);
    }

    private static void promise6() {
        LoosePlug x = new LoosePlug();
        Check.due("noise(20)", x.noise(20), 0);
        Check.due("noise(21)", x.noise(21), BAD);
        Check.due("noise(-1)", x.noise(-1), BAD);
        Check.due("noise was 20", x.noise(0), 20);
        Check.due("noise was 0", x.noise(5), 0);
        Check.due("noise was 5", x.noise(5), 5);
    }

    /** The draws of z = 1 and a noise of 20, reckoned elsewhere. */
    private static void promise7() {
        int[] wide = {8, 7, 7, -3, 3, -1};
        int[] narrow = {3, -1, -1, -3, 3, 0};
        LoosePlug x = new LoosePlug();
        x.noise(20);
        for (int k = 0; k < wide.length; k++) {
            x.run(k % 2);
            Check.due("draw " + k, x.ran(k, 2), wide[k]);
        }
        Check.due("lots(1)", x.lots(1), 1);
        x.noise(5);
        for (int k = 0; k < narrow.length; k++) {
            x.run(0);
            Check.due("draw again " + k, x.ran(6 + k, 2), narrow[k]);
        }
        Check.due("lots(-5)", x.lots(-5), 1);
        x.noise(20);
        x.run(0);
        Check.due("z below 0 at first", x.ran(12, 2), -3);
        x.lots(Integer.MIN_VALUE);
        x.run(0);
        Check.due("any z", x.ran(13, 2), (((Integer.MIN_VALUE * 1103515245 + 12345) >>> 16) % 41) - 20);
    }

    private static void promise8() {
        LoosePlug x = new LoosePlug();
        x.part(0, 1, 100, 5, 3);
        x.part(1, 2, 200, 5, 3);
        x.part(2, 3, 300, 5, 3);
        x.fail(0, 1, 0);
        x.fail(1, -20, 0);
        x.fail(2, 300, 0);
        Check.due("run(-1)", x.run(-1), BAD);
        Check.due("run(2)", x.run(2), BAD);
        Check.due("run(0)", x.run(0), 0);
        Check.due("run(1)", x.run(1), 1);
        Check.due("way 0", x.ran(0, 2), 301);
        Check.due("way 1", x.ran(1, 2), 280);
        x.tryout(2, false);
        x.run(0);
        Check.due("less what is believed", x.ran(2, 2), 1);
        // A quiet run draws too, and a refused one or one that is told does not.
        x.run(9);
        x.older(0, 0, 1);
        x.noise(20);
        x.run(0);
        Check.due("the fourth draw", x.ran(4, 2), 1 - 3);
        for (int k = 5; k < 40; k++) {
            Check.due("run " + k, x.run(0), k);
        }
        Check.due("full", x.run(0), FULL);
        Check.due("bad ahead of full", x.run(2), BAD);
        Check.due("older full", x.older(0, 0, 0), FULL);
        Check.due("older bad ahead of full", x.older(0, 0, 10000), BAD);
        Check.due("runs", x.many(1), 40);
    }

    private static void promise9() {
        LoosePlug x = new LoosePlug();
        x.later(7);
        Check.due("older", x.older(0, 0, 9999), 0);
        Check.due("older today", x.older(7, 1, -9999), 1);
        Check.due("tomorrow", x.older(8, 0, 0), BAD);
        Check.due("day -1", x.older(-1, 0, 0), BAD);
        Check.due("way 2", x.older(0, 2, 0), BAD);
        Check.due("way -1", x.older(0, -1, 0), BAD);
        Check.due("soon 10000", x.older(0, 0, 10000), BAD);
        Check.due("soon -10000", x.older(0, 0, -10000), BAD);
        Check.due("runs", x.many(1), 2);
        Check.due("soon", x.ran(1, 2), -9999);
    }

    private static void promise10() {
        LoosePlug x = new LoosePlug();
        x.later(3);
        x.older(2, 1, -5);
        x.run(0);
        int[] told = {2, 1, -5};
        int[] run = {3, 0, 0};
        for (int what = 0; what < 3; what++) {
            Check.due("told " + what, x.ran(0, what), told[what]);
            Check.due("run " + what, x.ran(1, what), run[what]);
        }
        Check.due("what 3", x.ran(0, 3), NO);
        Check.due("what -1", x.ran(0, -1), NO);
        Check.due("run 2", x.ran(2, 0), NO);
        Check.due("run -1", x.ran(-1, 0), NO);
        for (int far : FAR) {
            Check.due("far run", x.ran(far, 0), NO);
            Check.due("far what", x.ran(0, far), NO);
        }
    }

    private static void promise11() {
        LoosePlug x = new LoosePlug();
        for (int kind = 0; kind < 7; kind++) {
            x.part(kind, 1, 100, 5, kind + 1);
            x.fail(kind, 10, 0);
        }
        x.later(20);
        int spent = 0;
        for (int kind = 0; kind < 7; kind++) {
            boolean hides = kind == 4 || kind == 5;
            int late = kind == 3 ? 20 : 10;
            Check.due("through " + kind, x.tryout(kind, true), hides ? 0 : late);
            spent += kind + 1;
            Check.due("hours are spent", x.fact(4), spent);
            Check.due("it is tried", x.of(kind, 6), 1);
            Check.due("tried so far", x.fact(3), kind + 1);
            Check.due("believed", x.of(kind, 5), hides ? 100 : 100 + late);
            Check.due("by itself " + kind, x.tryout(kind, false), hides ? 10 : 0);
            spent += kind + 1;
            Check.due("hours again", x.fact(4), spent);
            Check.due("tried once", x.fact(3), kind + 1);
        }
        x.fail(4, 3, 0);
        Check.due("less than believed", x.tryout(4, false), -7);
        x.fail(4, 30, 0);
        Check.due("as it was believed", x.tryout(4, true), 0);
        Check.due("believed stays", x.of(4, 5), 103);
        int before = x.fact(4);
        Check.due("no such part", x.tryout(7, false), NO);
        Check.due("part -1", x.tryout(-1, true), NO);
        Check.due("nothing is spent", x.fact(4), before);
    }
}
