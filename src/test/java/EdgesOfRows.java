/** Part 5 of the terms as far as it is of rows, and promises 32 to 35. */
final class EdgesOfRows {
    private static final int BAD = -1, NO = Integer.MIN_VALUE;
    private static final int LEAST = Integer.MIN_VALUE, MOST = Integer.MAX_VALUE;
    private static final int DRIFTING = 3, LOOSE = 4;

    private EdgesOfRows() {
    }

    static void test() {
        rows();
        reader();
        promises32and33();
        promises34and35();
    }

    /** Parts 0, 2 and 3 are in way 0, parts 1 and 2 in way 1; it is day 10. */
    private static LoosePlug chain() {
        LoosePlug x = new LoosePlug();
        x.part(0, 1, 100, 1, 1);
        x.part(0, 2, 100, 1, 1);
        x.part(DRIFTING, 3, 100, 1, 1);
        x.part(LOOSE, 1, 100, 1, 1);
        x.later(10);
        x.fail(0, 5, 0);
        x.fail(1, 70, 11);
        x.fail(2, -30, 4);
        x.fail(3, 400, 10);
        return x;
    }

    private static void rows() {
        Sentence.says("ROWS of a WAY: (PART, TAKES today less BELIEVED, the sum so far) of the PARTS of the WAY, by numbers.");
        LoosePlug x = chain();
        Check.due("way 0", x.prove(0), 3);
        RowTest.rowDue(x, 0, 0, 5, 5);
        RowTest.rowDue(x, 1, 2, -18, -13);
        RowTest.rowDue(x, 2, 3, 400, 387);
        Check.due("way 1", x.prove(1), 2);
        RowTest.rowDue(x, 0, 1, 0, 0);
        RowTest.rowDue(x, 1, 2, -18, -18);
        Check.due("no more", x.row(2, 0), NO);
        x.later(1);
        RowTest.rowDue(x, 0, 1, 0, 0);
        x.prove(1);
        RowTest.rowDue(x, 0, 1, 70, 70);
        RowTest.rowDue(x, 1, 2, -21, 49);
        x.tryout(1, false);
        x.prove(1);
        RowTest.rowDue(x, 0, 1, 0, 0);
        Check.due("no part at all", new LoosePlug().prove(0), 0);
        LoosePlug y = new LoosePlug();
        for (int i = 0; i < 10; i++) {
            y.part(0, 3, i, 1, 1);
            y.fail(i, -500, 0);
        }
        Check.due("ten", y.prove(1), 10);
        RowTest.rowDue(y, 9, 9, -500, -5000);
        Check.due("no eleventh", y.row(10, 0), NO);
    }

    private static void reader() {
        Sentence.says("THE READER takes ROWS: right is one whose PART is the next of the WAY, with what it TAKES less BELIEVED today, "
                + "and the sum of these so far; if all are, but PARTS of the WAY are left: 222.");
        LoosePlug x = chain();
        x.prove(0);
        Check.due("right", x.judge(0), 0);
        for (int i = 0; i < 3; i++) {
            for (int what = 0; what < 3; what++) {
                int was = x.alterRow(i, what, 1 + x.row(i, what));
                Check.due("row " + i + " wrong in " + what, x.judge(0), i + 1);
                x.alterRow(i, what, was);
            }
        }
        Check.due("right again", x.judge(0), 0);
        x.alterRow(1, 1, -17);
        x.alterRow(1, 2, -12);
        x.alterRow(2, 2, 388);
        Check.due("sums that agree with a wrong row", x.judge(0), 2);
        x.prove(0);
        x.later(1);
        Check.due("of yesterday", x.judge(0), 2);
        x.prove(0);
        x.tryout(0, false);
        Check.due("believed otherwise since", x.judge(0), 1);
        LoosePlug y = new LoosePlug();
        y.part(0, 3, 1, 1, 1);
        y.prove(0);
        y.part(0, 1, 1, 1, 1);
        y.part(0, 2, 1, 1, 1);
        Check.due("a part is left", y.judge(0), 222);
        Check.due("a part is left in way 1", y.judge(1), 222);
        y.alterRow(0, 1, 1);
        Check.due("a wrong row is told first", y.judge(0), 1);
        y.prove(0);
        Check.due("all there", y.judge(0), 0);
        Check.due("part 1 is not in way 1", y.judge(1), 2);
        LoosePlug z = new LoosePlug();
        z.part(0, 3, 1, 1, 1);
        z.part(0, 1, 1, 1, 1);
        z.prove(0);
        Check.due("a row more than parts", z.judge(1), 2);
    }

    private static void promises32and33() {
        Sentence.says("ROWS of a WAY: how many. BAD.");
        int[] ways = {-1, 2, LEAST, MOST};
        for (int way : ways) {
            Refused.always("prove(" + way + ")", BAD, p -> p.prove(way));
        }
        LoosePlug x = chain();
        Check.due("how many", x.prove(0), 3);
        Check.due("so many there are", x.many(4), 3);
        Check.due("fewer", x.prove(1), 2);
        Check.due("so many there are", x.many(4), 2);

        Sentence.says("Of ROW i: what = 0 PART, 1 TAKES less BELIEVED, 2 the sum. NO: there is none such, another what.");
        RowTest.rowDue(x, 1, 2, -18, -18);
        int[] rows = {-1, 10, LEAST, MOST};
        for (int i : rows) {
            Refused.always("row(" + i + ", 0)", NO, p -> p.row(i, 0));
        }
        int[] whats = {-1, 3, LEAST, MOST};
        for (int what : whats) {
            Refused.always("row(0, " + what + ")", NO, p -> p.row(0, what));
        }
        Refused.in(Refused.World.NEW, "row 0", NO, p -> p.row(0, 0));
        Check.due("the last of the middle world", Refused.make(Refused.World.MIDDLE).row(3, 0), 4);
        Refused.in(Refused.World.MIDDLE, "one behind the last", NO, p -> p.row(4, 0));
    }

    private static void promises34and35() {
        Sentence.says("It becomes v: what it was. NO likewise.");
        LoosePlug x = chain();
        x.prove(0);
        Check.due("the part", x.alterRow(2, 0, LEAST), 3);
        Check.due("late", x.alterRow(2, 1, MOST), 400);
        Check.due("the sum", x.alterRow(2, 2, -7), 387);
        RowTest.rowDue(x, 2, LEAST, MOST, -7);
        RowTest.rowDue(x, 1, 2, -18, -13);
        Check.due("what it was", x.alterRow(2, 0, 3), LEAST);
        int[] rows = {-1, 10, LEAST, MOST};
        for (int i : rows) {
            Refused.always("alterRow(" + i + ", 0, 77)", NO, p -> p.alterRow(i, 0, 77));
        }
        int[] whats = {-1, 3, LEAST, MOST};
        for (int what : whats) {
            Refused.always("alterRow(0, " + what + ", 77)", NO, p -> p.alterRow(0, what, 77));
            Refused.always("alterRow(1, " + what + ", 77)", NO, p -> p.alterRow(1, what, 77));
        }
        Refused.in(Refused.World.NEW, "row 0", NO, p -> p.alterRow(0, 0, 77));
        Refused.in(Refused.World.MIDDLE, "one behind the last", NO, p -> p.alterRow(4, 2, 77));

        Sentence.says("THE READER takes ROWS as those of a WAY: 0 all is right; else the first ROW that isn't, and 1 more; "
                + "222: they end too early. BAD.");
        int[] ways = {-1, 2, LEAST, MOST};
        for (int way : ways) {
            Refused.always("judge(" + way + ")", BAD, p -> p.judge(way));
        }
        LoosePlug y = new LoosePlug();
        Check.due("no rows and no parts", y.judge(0), 0);
        for (int i = 0; i < 10; i++) {
            y.part(0, 1, 1, 1, 1);
        }
        Check.due("no rows", y.judge(0), 222);
        Check.due("no rows, as those of way 1", y.judge(1), 0);
        y.prove(0);
        Check.due("all is right", y.judge(0), 0);
        Check.due("as those of way 1", y.judge(1), 1);
        for (int i = 9; i >= 0; i--) {
            y.alterRow(i, 2, 1);
            Check.due("the first that isn't", y.judge(0), i + 1);
        }
    }
}
