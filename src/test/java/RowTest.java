/** Promises 32 to 35: rows. */
final class RowTest {
    private static final int BAD = -1, NO = Integer.MIN_VALUE;

    public static void main(String[] args) {
        promise32();
        promise33();
        promise34();
        promise35();
        Check.end();
    }

    /** Parts 0, 2 and 3 are in way 0, parts 1 and 2 in way 1. */
    private static LoosePlug chain() {
        LoosePlug x = new LoosePlug();
        x.part(0, 1, 100, 1, 1);
        x.part(0, 2, 100, 1, 1);
        x.part(3, 3, 100, 1, 1);
        x.part(4, 1, 100, 1, 1);
        x.later(10);
        x.fail(0, 5, 0);
        x.fail(1, 70, 0);
        x.fail(2, -3, 4);
        x.fail(3, 400, 10);
        return x;
    }

    static void rowDue(LoosePlug x, int i, int part, int late, int sum) {
        Check.due("row " + i + " part", x.row(i, 0), part);
        Check.due("row " + i + " late", x.row(i, 1), late);
        Check.due("row " + i + " sum", x.row(i, 2), sum);
    }

    private static void promise32() {
        LoosePlug x = chain();
        Check.due("way 2", x.prove(2), BAD);
        Check.due("way -1", x.prove(-1), BAD);
        Check.due("way 0", x.prove(0), 3);
        Check.due("rows", x.many(4), 3);
        Check.due("bad changes nothing", x.prove(7), BAD);
        Check.due("rows stay", x.many(4), 3);
        Check.due("way 1", x.prove(1), 2);
        Check.due("rows of way 1", x.many(4), 2);
        Check.due("no parts", new LoosePlug().prove(0), 0);
        LoosePlug y = new LoosePlug();
        for (int i = 0; i < 10; i++) {
            y.part(0, 3, i, 1, 1);
            y.fail(i, i, 0);
        }
        Check.due("ten", y.prove(1), 10);
        rowDue(y, 9, 9, 9, 45);
        Check.due("no eleventh", y.row(10, 0), NO);
    }

    private static void promise33() {
        LoosePlug x = chain();
        Check.due("no rows yet", x.row(0, 0), NO);
        x.prove(0);
        rowDue(x, 0, 0, 5, 5);
        rowDue(x, 1, 2, -1, 4);
        rowDue(x, 2, 3, 400, 404);
        x.tryout(3, false);
        rowDue(x, 2, 3, 400, 404);
        x.prove(0);
        rowDue(x, 2, 3, 0, 4);
        x.prove(1);
        rowDue(x, 0, 1, 70, 70);
        rowDue(x, 1, 2, -1, 69);
        Check.due("row 2", x.row(2, 0), NO);
        Check.due("row -1", x.row(-1, 0), NO);
        Check.due("row most", x.row(Integer.MAX_VALUE, 0), NO);
        Check.due("what 3", x.row(0, 3), NO);
        Check.due("what -1", x.row(1, -1), NO);
    }

    private static void promise34() {
        LoosePlug x = chain();
        Check.due("no rows yet", x.alterRow(0, 0, 1), NO);
        x.prove(0);
        Check.due("was", x.alterRow(1, 2, -77), 4);
        Check.due("was altered", x.alterRow(1, 2, Integer.MIN_VALUE), -77);
        rowDue(x, 1, 2, -1, Integer.MIN_VALUE);
        Check.due("part", x.alterRow(2, 0, Integer.MAX_VALUE), 3);
        Check.due("late", x.alterRow(2, 1, 8), 400);
        rowDue(x, 2, Integer.MAX_VALUE, 8, 404);
        Check.due("row 3", x.alterRow(3, 0, 1), NO);
        Check.due("row -1", x.alterRow(-1, 0, 1), NO);
        Check.due("what 3", x.alterRow(0, 3, 1), NO);
        Check.due("what -1", x.alterRow(1, -1, 1), NO);
        rowDue(x, 0, 0, 5, 5);
    }

    private static void promise35() {
        LoosePlug x = chain();
        Check.due("way 2", x.judge(2), BAD);
        Check.due("way -1", x.judge(-1), BAD);
        Check.due("no rows", x.judge(0), 222);
        Check.due("no rows, no parts", new LoosePlug().judge(0), 0);
        x.prove(0);
        Check.due("right", x.judge(0), 0);
        for (int i = 0; i < 3; i++) {
            for (int what = 0; what < 3; what++) {
                int was = x.alterRow(i, what, 12345);
                Check.due("wrong row " + i, x.judge(0), i + 1);
                x.alterRow(i, what, was);
                Check.due("right again", x.judge(0), 0);
            }
        }
        x.part(0, 1, 1, 1, 1);
        Check.due("a part is left", x.judge(0), 222);
        x.alterRow(2, 1, 0);
        Check.due("wrong ahead of too early", x.judge(0), 3);
        x.prove(0);
        Check.due("the day", x.later(10), 20);
        Check.due("part 2 drifts on", x.judge(0), 2);
        LoosePlug y = new LoosePlug();
        y.part(0, 3, 1, 1, 1);
        y.part(0, 1, 1, 1, 1);
        y.prove(0);
        Check.due("one row too many", y.judge(1), 2);
        y.prove(1);
        Check.due("one too few", y.judge(0), 222);
        LoosePlug z = new LoosePlug();
        z.part(0, 1, 1, 1, 1);
        z.prove(0);
        Check.due("rows where none is due", z.judge(1), 1);
    }
}
