/** Part 5 of the terms as far as it is of acts, sheets and shelves, and promises 36 to 43. */
final class EdgesOfHost {
    private static final int BAD = -1, NONE = -3;
    private static final int LEAST = Integer.MIN_VALUE, MOST = Integer.MAX_VALUE;
    private static final int PART = 0, TRIED = 1, TAKEN = 2, DRIFTING = 3, LOOSE = 4, SHORT = 5, OTHER = 6;
    private static final int TAKES = 0, SHARES = 1, BOUNDS = 2, TELLS = 3;
    private static final int[] NO_FOUR = {-1, 4, LEAST, MOST};

    private EdgesOfHost() {
    }

    static void test() {
        acts();
        kindsUnderKinds();
        bodiesOfPart();
        bodiesOfKinds();
        theTrace();
        sheets();
        shelves();
        promise36();
        promises37and38();
        promises39and40();
        promise41();
        promises42and43();
    }

    /** The last of so many parts is of this kind and span, and on shelf 0. */
    private static LoosePlug withPart(int number, int kind, int span) {
        LoosePlug x = new LoosePlug();
        for (int i = 0; i < number; i++) {
            x.part(PART, 1, 1, 1, 1);
        }
        x.part(kind, 1, 1, span, 1);
        x.shelf(0, 0, number);
        return x;
    }

    private static void acts() {
        Sentence.says("ACTS of things, with a number x (ints that wrap): 0 takes, 1 shares, 2 bounds, 3 tells.");
        LoosePlug x = withPart(1, PART, 4);
        HostTest.actDue(x, TAKES, MOST, LEAST, 10);
        HostTest.actDue(x, TAKES, MOST - 1, MOST, 10);
        HostTest.actDue(x, SHARES, (1 << 30) - 1, LEAST, 11, 10);
        HostTest.actDue(x, SHARES, (1 << 30) - 2, MOST - 1, 11, 10);
        HostTest.actDue(x, BOUNDS, LEAST, LEAST / 3, 12);
        HostTest.actDue(x, TELLS, (1 << 30) - 1, LEAST ^ 4, 13, 11, 10);
        LoosePlug loose = withPart(1, LOOSE, 4);
        HostTest.actDue(loose, TAKES, MOST, LEAST, 51, 10);
        HostTest.actDue(loose, BOUNDS, MOST - 1, (LEAST / 3) ^ 1, 50, 12);
        HostTest.actDue(withPart(1, SHORT, 2), BOUNDS, MOST - 2, (MOST ^ 1) * 2, 61, 50, 12);
        HostTest.actDue(withPart(1, TAKEN, 4), TAKES, MOST, LEAST * 3, 30, 10);
        HostTest.actDue(withPart(1, TRIED, 4), SHARES, (1 << 30) - 1, MOST - 3, 20, 11, 10);
        HostTest.actDue(withPart(1, OTHER, 4), TAKES, LEAST, MOST - 2, 70, 10);

        Sentence.says("n: the number of the PART, a: its SPAN.");
        for (int n = 0; n < 10; n++) {
            HostTest.actDue(withPart(n, PART, 99), TAKES, 100, 100 + n, 10);
            HostTest.actDue(withPart(n, TRIED, 99), SHARES, 0, 2 * n - 99, 20, 11, 10);
            HostTest.actDue(withPart(n, TRIED, 0), SHARES, 0, 2 * n, 20, 11, 10);
        }
    }

    private static void kindsUnderKinds() {
        Sentence.says("BODIES, each with its number, by KINDS: tried, taken, drifting, loose under part; short under "
                + "loose; other under tried.");
        int[] above = {-1, PART, PART, PART, PART, LOOSE, TRIED};
        for (int kind = 0; kind < 7; kind++) {
            LoosePlug x = withPart(0, kind, 9);
            for (int as = 0; as < 7; as++) {
                boolean under = as == kind || as == PART || as == above[kind];
                Check.due("kind " + kind + " taken for " + as, x.taken(0, as), under ? 0 : -13);
            }
        }
    }

    private static void bodiesOfPart() {
        Sentence.says("part: 10 takes: x + n. 11 shares: takes(x) * 2.");
        LoosePlug x = withPart(2, PART, 5);
        HostTest.actDue(x, TAKES, 7, 9, 10);
        HostTest.actDue(x, TAKES, -2, 0, 10);
        HostTest.actDue(x, SHARES, 7, 18, 11, 10);
        Sentence.says("12 bounds: x by (a - n), the rest away (-15 if these are the same; that is all that act() answers then).");
        HostTest.actDue(x, BOUNDS, 2, 0, 12);
        HostTest.actDue(x, BOUNDS, 3, 1, 12);
        HostTest.actDue(x, BOUNDS, -2, 0, 12);
        HostTest.actDue(x, BOUNDS, -3, -1, 12);
        HostTest.actDue(withPart(2, PART, 3), BOUNDS, 9, 9, 12);
        HostTest.actDue(withPart(2, PART, 2), BOUNDS, 9, -15, 12);
        HostTest.actDue(withPart(2, PART, 2), BOUNDS, 0, -15, 12);
        HostTest.actDue(withPart(2, PART, 1), BOUNDS, 9, -9, 12);
        HostTest.actDue(withPart(2, PART, 1), BOUNDS, LEAST, LEAST, 12);
        HostTest.actDue(withPart(0, PART, 0), BOUNDS, 9, -15, 12);
        HostTest.actDue(withPart(9, PART, 9), BOUNDS, 9, -15, 12);
        HostTest.actDue(withPart(2, LOOSE, 2), BOUNDS, 9, -15, 50, 12);
        HostTest.actDue(withPart(2, SHORT, 2), BOUNDS, 9, -15, 61, 50, 12);
        HostTest.actDue(withPart(2, DRIFTING, 2), TELLS, 9, -15, 40, 13, 11, 10, 12);
        LoosePlug same = withPart(2, PART, 2);
        HostTest.actDue(same, BOUNDS, 9, -15, 12);
        HostTest.actDue(same, TAKES, 9, 11, 10);
        HostTest.actDue(withPart(2, PART, 17), BOUNDS, -225, -15, 12);
        Sentence.says("13 tells: shares(x) ^ a.");
        HostTest.actDue(x, TELLS, 7, 18 ^ 5, 13, 11, 10);
        HostTest.actDue(x, TELLS, -7, -10 ^ 5, 13, 11, 10);
    }

    /** n is 2 and a is 5 throughout. */
    private static void bodiesOfKinds() {
        Sentence.says("tried: 20 shares: super.shares(x) - a.");
        LoosePlug x = withPart(2, TRIED, 5);
        HostTest.actDue(x, TAKES, 7, 9, 10);
        HostTest.actDue(x, SHARES, 7, 13, 20, 11, 10);
        HostTest.actDue(x, BOUNDS, 7, 2, 12);
        HostTest.actDue(x, TELLS, 7, 13 ^ 5, 13, 20, 11, 10);
        Sentence.says("taken: 30 takes: super.takes(x) * 3.");
        x = withPart(2, TAKEN, 5);
        HostTest.actDue(x, TAKES, 7, 27, 30, 10);
        HostTest.actDue(x, SHARES, 7, 54, 11, 30, 10);
        HostTest.actDue(x, BOUNDS, 7, 2, 12);
        HostTest.actDue(x, TELLS, 7, 54 ^ 5, 13, 11, 30, 10);
        Sentence.says("drifting: 40 tells: super.tells(x) + bounds(n).");
        x = withPart(2, DRIFTING, 4);
        HostTest.actDue(x, TAKES, 7, 9, 10);
        HostTest.actDue(x, SHARES, 7, 18, 11, 10);
        HostTest.actDue(x, BOUNDS, 7, 3, 12);
        HostTest.actDue(x, TELLS, 7, (18 ^ 4) + 1, 40, 13, 11, 10, 12);
        Sentence.says("loose: 50 bounds: super.bounds(x + 2) ^ 1. 51 takes: 0 - super.takes(x).");
        x = withPart(2, LOOSE, 5);
        HostTest.actDue(x, TAKES, 7, -9, 51, 10);
        HostTest.actDue(x, SHARES, 7, -18, 11, 51, 10);
        HostTest.actDue(x, BOUNDS, 6, 2 ^ 1, 50, 12);
        HostTest.actDue(x, BOUNDS, 7, 3 ^ 1, 50, 12);
        HostTest.actDue(x, TELLS, 7, -18 ^ 5, 13, 11, 51, 10);
        Sentence.says("short: 60 shares: super.shares(x) + takes(a). 61 bounds: super.bounds(x) * 2.");
        x = withPart(2, SHORT, 5);
        HostTest.actDue(x, TAKES, 7, -9, 51, 10);
        HostTest.actDue(x, SHARES, 7, -18 - 7, 60, 11, 51, 10, 51, 10);
        HostTest.actDue(x, BOUNDS, 6, (2 ^ 1) * 2, 61, 50, 12);
        HostTest.actDue(x, BOUNDS, 7, (3 ^ 1) * 2, 61, 50, 12);
        HostTest.actDue(x, TELLS, 7, -25 ^ 5, 13, 60, 11, 51, 10, 51, 10);
        Sentence.says("other: 70 takes: super.takes(x) - 4. 71 tells: super.tells(x) ^ shares(n).");
        x = withPart(2, OTHER, 5);
        HostTest.actDue(x, TAKES, 7, 5, 70, 10);
        HostTest.actDue(x, SHARES, 7, 5, 20, 11, 70, 10);
        HostTest.actDue(x, BOUNDS, 7, 2, 12);
        HostTest.actDue(x, TELLS, 7, 5 ^ 5 ^ -5, 71, 13, 20, 11, 70, 10, 20, 11, 70, 10);
        HostTest.actDue(withPart(2, OTHER, 4), TELLS, 9, 10 ^ 4 ^ -4, 71, 13, 20, 11, 70, 10, 20, 11, 70, 10);
    }

    private static void theTrace() {
        Sentence.says("THE TRACE: numbers of the bodies that ran in the latest act(), as they began (left first); the "
                + "first 30 are kept.");
        LoosePlug x = withPart(2, SHORT, 5);
        Check.due("none yet", x.many(6), 0);
        HostTest.actDue(x, TELLS, 1, (-6 - 7) ^ 5, 13, 60, 11, 51, 10, 51, 10);
        HostTest.actDue(x, TAKES, 1, -3, 51, 10);
        Check.due("what was there goes", x.trace(2), NONE);
        Check.due("other calls leave it", x.taken(0, 0), 2);
        Check.due("a look leaves it", x.trace(0), 51);
        // No act has more bodies than tells of kind other: ten.
        LoosePlug y = withPart(2, OTHER, 5);
        y.act(0, TELLS, 7);
        Check.due("the most", y.many(6), 10);
        Check.due("the last", y.trace(9), 10);
        Check.due("none behind it", y.trace(10), NONE);
    }

    private static void sheets() {
        Sentence.says("SHEETS 0 to 3 are rows of bytes (sort 0), shorts (1), ints (2) or longs (3), 40 at most, or missing "
                + "(at first).");
        LoosePlug x = new LoosePlug();
        int[] values = {127, 128, -128, -129, 32767, 32768, -32768, -32769, MOST, LEAST, -1};
        for (int sheet = 0; sheet < 4; sheet++) {
            Check.due("missing at first", x.item(sheet, 0, 0), -11);
            Check.due("40", x.sheet(sheet, sheet, 40), 1);
            Check.due("41", x.sheet(sheet, sheet, 41), BAD);
            for (int v : values) {
                x.put(sheet, 39, v);
                int due = sheet == 0 ? (byte) v : sheet == 1 ? (short) v : v;
                Check.due("sort " + sheet + " of " + v, x.item(sheet, sheet, 39), due);
            }
            Check.due("place 40", x.put(sheet, 40, 1), -12);
            Check.due("an empty row", x.sheet(sheet, sheet, 0), 1);
            Check.due("has no place", x.put(sheet, 0, 1), -12);
        }
        Check.due("no sheet 4", x.sheet(4, 0, 1), BAD);
        x.sheet(0, 2, 3);
        x.sheet(1, 2, 3);
        x.put(0, 1, 5);
        Check.due("each its own row", x.item(1, 2, 1), 0);
        Check.due("and its own items", x.item(0, 2, 0) + x.item(0, 2, 2), 0);
    }

    private static void shelves() {
        Sentence.says("SHELVES 0 to 3 hold a PART (nothing, if there is no such PART any more), a SHEET's row, or nothing "
                + "(at first).");
        LoosePlug x = new LoosePlug();
        for (int shelf = 0; shelf < 4; shelf++) {
            Check.due("nothing at first", x.taken(shelf, 0), -11);
            Check.due("nor a row", x.taken(shelf, 10), -11);
        }
        Check.due("no shelf 4", x.shelf(4, 2, 0), BAD);
        x.part(LOOSE, 1, 1, 1, 1);
        x.keep();
        x.part(TAKEN, 1, 1, 1, 1);
        x.sheet(0, 3, 7);
        x.shelf(0, 0, 0);
        x.shelf(1, 0, 1);
        x.shelf(2, 1, 0);
        Check.due("a part", x.taken(0, LOOSE), 0);
        Check.due("the other part", x.taken(1, TAKEN), 1);
        Check.due("a row", x.taken(2, 13), 7);
        Check.due("nothing", x.taken(3, 0), -11);
        Check.due("it acts", x.act(1, TAKES, 1), 6);
        x.back();
        Check.due("the part is there still", x.taken(0, LOOSE), 0);
        Check.due("no such part any more", x.taken(1, TAKEN), -11);
        Check.due("nor as a row", x.taken(1, 10), -11);
        Check.due("nothing acts", x.act(1, TAKES, 1), 0);
        Check.due("the row is there still", x.taken(2, 13), 7);
        x.part(DRIFTING, 1, 1, 1, 1);
        Check.due("there is such a part again", x.taken(1, DRIFTING), 1);
    }

    private static void promise36() {
        Sentence.says("A SHEET becomes a row of n of a sort, all 0, or missing (sort -1; n counts nothing then): 1. "
                + "BAD: no such SHEET, sort, n above 40; -14.");
        LoosePlug x = new LoosePlug();
        x.sheet(0, 2, 40);
        for (int i = 0; i < 40; i++) {
            x.put(0, i, 9);
        }
        Check.due("anew", x.sheet(0, 2, 40), 1);
        for (int i = 0; i < 40; i++) {
            Check.due("all 0", x.item(0, 2, i), 0);
        }
        x.put(0, 1, 9);
        x.sheet(0, 2, 1);
        x.sheet(0, 2, 2);
        Check.due("all 0, where there was more once", x.item(0, 2, 1), 0);
        int[] any = {0, -1, 41, LEAST, MOST};
        for (int n : any) {
            x.sheet(0, 2, 3);
            Check.due("missing, n " + n, x.sheet(0, -1, n), 1);
            Check.due("is missing", x.put(0, 0, 1), -11);
        }
        for (int sheet : NO_FOUR) {
            Refused.always("sheet " + sheet, BAD, p -> p.sheet(sheet, 0, 1));
            Refused.always("sheet " + sheet + " missing", BAD, p -> p.sheet(sheet, -1, 1));
            Refused.always("sheet " + sheet + " below 0", BAD, p -> p.sheet(sheet, 0, -1));
        }
        int[] sorts = {-2, 4, LEAST, MOST};
        for (int sort : sorts) {
            Refused.always("sort " + sort, BAD, p -> p.sheet(0, sort, 1));
            Refused.always("sort " + sort + " below 0", BAD, p -> p.sheet(0, sort, -1));
        }
        for (int sort = 0; sort < 4; sort++) {
            int s = sort;
            Refused.always("n 41", BAD, p -> p.sheet(s, s, 41));
            Refused.always("n most", BAD, p -> p.sheet(s, s, MOST));
            Refused.always("n -1", -14, p -> p.sheet(s, s, -1));
            Refused.always("n least", -14, p -> p.sheet(s, s, LEAST));
        }
    }

    private static void promises37and38() {
        Sentence.says("Item i becomes v, narrowed to its sort: 1. BAD: no such SHEET; -11; -12.");
        LoosePlug x = new LoosePlug();
        x.sheet(0, 0, 2);
        Check.due("the first", x.put(0, 0, 255), 1);
        Check.due("the last", x.put(0, 1, 256), 1);
        Check.due("narrowed", x.item(0, 0, 0), -1);
        Check.due("narrowed to 0", x.item(0, 0, 1), 0);
        for (int sheet : NO_FOUR) {
            Refused.always("put on sheet " + sheet, BAD, p -> p.put(sheet, 0, 1));
        }
        Refused.in(Refused.World.NEW, "put on a missing one", -11, p -> p.put(0, 0, 1));
        Refused.in(Refused.World.MIDDLE, "put on a missing one, outside", -11, p -> p.put(3, -1, 1));
        int[] places = {-1, 3, 40, LEAST, MOST};
        for (int i : places) {
            Refused.in(Refused.World.MIDDLE, "put at place " + i, -12, p -> p.put(1, i, 1));
        }
        int[] far = {-1, 40, LEAST, MOST};
        for (int i : far) {
            Refused.in(Refused.World.FULL, "put at place " + i, -12, p -> p.put(3, i, 1));
        }

        Sentence.says("Item i, taken for a sort (0 to 3; of longs the lowest 32 bits). BAD: no such SHEET, sort; -11; -13; -12. "
                + "(An item may be as low as these, too.)");
        for (int sort = 0; sort < 4; sort++) {
            x.sheet(1, sort, 4);
            int[] low = {-11, -13, -12, BAD};
            for (int i = 0; i < 4; i++) {
                x.put(1, i, low[i]);
                Check.due("as low as " + low[i], x.item(1, sort, i), low[i]);
            }
            for (int other = 0; other < 4; other++) {
                Check.due("sort " + sort + " taken for " + other, x.item(1, other, 3), other == sort ? BAD : -13);
                Check.due("outside, taken for " + other, x.item(1, other, 4), other == sort ? -12 : -13);
            }
        }
        x.put(1, 0, LEAST);
        Check.due("the lowest 32 bits", x.item(1, 3, 0), LEAST);
        for (int sheet : NO_FOUR) {
            Refused.always("item of sheet " + sheet, BAD, p -> p.item(sheet, 0, 0));
        }
        for (int sort : NO_FOUR) {
            Refused.always("item of sort " + sort, BAD, p -> p.item(0, sort, 0));
        }
        Refused.in(Refused.World.NEW, "item of a missing one", -11, p -> p.item(3, 3, 0));
        Refused.in(Refused.World.MIDDLE, "item of a missing one, outside", -11, p -> p.item(3, 0, 40));
        Refused.in(Refused.World.MIDDLE, "item of another sort", -13, p -> p.item(1, 2, 0));
        Refused.in(Refused.World.MIDDLE, "item of another sort, outside", -13, p -> p.item(1, 2, -1));
        for (int i : places) {
            Refused.in(Refused.World.MIDDLE, "item at place " + i, -12, p -> p.item(1, 1, i));
        }
    }

    private static void promises39and40() {
        Sentence.says("A SHELF holds PART n (what 0), the row of SHEET n (1, as it is then; nothing, if missing), nothing (2): 1. "
                + "BAD: no such SHELF, what, thing.");
        LoosePlug x = new LoosePlug();
        for (int i = 0; i < 10; i++) {
            x.part(PART, 1, 1, 1, 1);
        }
        Check.due("the first part", x.shelf(0, 0, 0), 1);
        Check.due("is held", x.taken(0, 0), 0);
        Check.due("the last part", x.shelf(0, 0, 9), 1);
        Check.due("is held instead", x.taken(0, 0), 9);
        Check.due("held twice", x.shelf(1, 0, 9), 1);
        Check.due("on either", x.taken(1, 0), 9);
        x.sheet(0, 1, 4);
        x.sheet(3, 0, 40);
        Check.due("the first sheet", x.shelf(0, 1, 0), 1);
        Check.due("the last sheet", x.shelf(1, 1, 3), 1);
        Check.due("its row", x.taken(0, 11), 4);
        Check.due("its row", x.taken(1, 10), 40);
        x.sheet(0, 3, 9);
        Check.due("as it was then", x.taken(0, 11), 4);
        Check.due("not as it is", x.taken(0, 13), -13);
        x.sheet(0, -1, 0);
        Check.due("though missing now", x.taken(0, 11), 4);
        Check.due("a missing one", x.shelf(0, 1, 0), 1);
        Check.due("is nothing", x.taken(0, 11), -11);
        x.sheet(0, 1, 4);
        Check.due("and stays nothing", x.taken(0, 11), -11);
        int[] any = {0, -1, 10, LEAST, MOST};
        for (int n : any) {
            x.shelf(1, 0, 5);
            Check.due("nothing, n " + n, x.shelf(1, 2, n), 1);
            Check.due("is nothing", x.taken(1, 0), -11);
        }
        for (int shelf : NO_FOUR) {
            Refused.always("shelf " + shelf, BAD, p -> p.shelf(shelf, 2, 0));
            Refused.always("a sheet on shelf " + shelf, BAD, p -> p.shelf(shelf, 1, 0));
            Refused.always("what " + shelf, BAD, p -> p.shelf(3, shelf, 0));
            Refused.always("sheet " + shelf, BAD, p -> p.shelf(3, 1, shelf));
        }
        Refused.always("what 3", BAD, p -> p.shelf(3, 3, 0));
        int[] parts = {-1, 10, LEAST, MOST};
        for (int n : parts) {
            Refused.always("part " + n, BAD, p -> p.shelf(3, 0, n));
        }
        Refused.in(Refused.World.NEW, "part 0", BAD, p -> p.shelf(0, 0, 0));
        Refused.in(Refused.World.MIDDLE, "a part that isn't yet", BAD, p -> p.shelf(0, 0, 5));

        Sentence.says("What a SHELF holds taken for a PART of KIND as (0 to 6, or one under it): its number; "
                + "for a row of sort as - 10 (as 10 to 13): how many items. BAD: no such SHELF, as; -13; -11.");
        LoosePlug y = withPart(9, OTHER, 1);
        Check.due("its kind", y.taken(0, OTHER), 9);
        Check.due("the kind above", y.taken(0, TRIED), 9);
        Check.due("kind 0", y.taken(0, 0), 9);
        Check.due("another kind", y.taken(0, SHORT), -13);
        Check.due("a part taken for a row", y.taken(0, 10), -13);
        for (int sort = 0; sort < 4; sort++) {
            y.sheet(0, sort, 10 * sort);
            y.shelf(1, 1, 0);
            for (int as = 0; as < 7; as++) {
                Check.due("a row taken for a part", y.taken(1, as), -13);
            }
            for (int as = 10; as < 14; as++) {
                Check.due("sort " + sort + " taken for " + as, y.taken(1, as), as == 10 + sort ? 10 * sort : -13);
            }
        }
        for (int as = 0; as < 14; as++) {
            Check.due("nothing taken for " + as, y.taken(2, as), as > 6 && as < 10 ? BAD : -11);
        }
        int[] others = {-1, 7, 9, 14, LEAST, MOST};
        for (int as : others) {
            for (int shelf = 0; shelf < 4; shelf++) {
                int s = shelf;
                Refused.always("shelf " + shelf + " taken for " + as, BAD, p -> p.taken(s, as));
            }
        }
        for (int shelf : NO_FOUR) {
            Refused.always("taken of shelf " + shelf, BAD, p -> p.taken(shelf, 0));
            Refused.always("taken of shelf " + shelf + " for a row", BAD, p -> p.taken(shelf, 10));
        }
        Refused.in(Refused.World.MIDDLE, "a part of another kind", -13, p -> p.taken(3, SHORT));
        Refused.in(Refused.World.MIDDLE, "a row of another sort", -13, p -> p.taken(1, 11));
        Refused.in(Refused.World.MIDDLE, "nothing", -11, p -> p.taken(2, 0));
    }

    private static void promise41() {
        Sentence.says("An ACT (0 to 3) of the PART on a SHELF, with x. 0, and no TRACE then: no such SHELF, act, nothing, a row.");
        LoosePlug x = new LoosePlug();
        x.part(PART, 1, 1, 1, 1);
        x.part(TAKEN, 1, 1, 4, 1);
        x.shelf(0, 0, 1);
        x.shelf(3, 0, 0);
        Check.due("act 0", x.act(0, 0, 5), 18);
        Check.due("act 3", x.act(0, 3, 5), 36 ^ 4);
        Check.due("shelf 3", x.act(3, 0, 5), 5);
        for (Refused.World world : Refused.World.values()) {
            for (int v : NO_FOUR) {
                Refused.butTrace(world, "act of shelf " + v, p -> p.act(v, 0, 7));
                Refused.butTrace(world, "act " + v, p -> p.act(0, v, 7));
            }
        }
        for (int act = 0; act < 4; act++) {
            int a = act;
            Refused.butTrace(Refused.World.NEW, "of nothing", p -> p.act(0, a, 7));
            Refused.butTrace(Refused.World.MIDDLE, "of nothing", p -> p.act(2, a, 7));
            Refused.butTrace(Refused.World.MIDDLE, "of a row", p -> p.act(1, a, 7));
        }
    }

    private static void promises42and43() {
        Sentence.says("THE TRACE's i-th body. NONE.");
        LoosePlug x = withPart(0, PART, 9);
        Check.due("none yet", x.trace(0), NONE);
        x.act(0, TELLS, 1);
        Check.due("the first", x.trace(0), 13);
        Check.due("the last", x.trace(2), 10);
        Check.due("behind the last", x.trace(3), NONE);
        int[] places = {-1, 10, 29, 30, 31, LEAST, MOST};
        for (int i : places) {
            Refused.always("trace(" + i + ")", NONE, p -> p.trace(i));
        }

        Sentence.says("How many: what = 0 PARTS, 1 RUNS, 2 STORIES, 3 HOUSES, 4 ROWS, 5 bytes of THE TAPE, 6 bodies of THE TRACE "
                + "(those kept, 30 at most), 7 THE DAY. BAD: another what.");
        int[][] due = {{0, 0, 0, 0, 0, 0, 0, 0}, {5, 5, 3, 3, 4, 11, 10, 40}, {10, 40, 8, 8, 0, 200, 10, 999}};
        for (Refused.World world : Refused.World.values()) {
            LoosePlug y = Refused.make(world);
            int[] counts = due[world.ordinal()];
            counts[4] = world == Refused.World.FULL ? y.prove(1) : counts[4];
            for (int what = 0; what < 8; what++) {
                Check.due(world + " many(" + what + ")", y.many(what), counts[what]);
            }
        }
        int[] others = {-1, 8, LEAST, MOST};
        for (int what : others) {
            Refused.always("many(" + what + ")", BAD, p -> p.many(what));
        }
    }
}
