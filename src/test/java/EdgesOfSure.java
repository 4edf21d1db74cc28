import java.util.ArrayList;
import java.util.List;

/** Part 3 of the terms and promises 22 to 27: spans, how sure a number is, jumps, months. */
final class EdgesOfSure {
    private static final int BAD = -1, NONE = -3, NO = Integer.MIN_VALUE;
    private static final int LEAST = Integer.MIN_VALUE, MOST = Integer.MAX_VALUE;
    private static final int[] NO_WAYS = {-1, 2, LEAST, MOST};

    private EdgesOfSure() {
    }

    static void test() {
        spans();
        sure();
        could();
        fits();
        jumps();
        months();
        promises22to25();
        promises26and27();
    }

    private static LoosePlug withSpans(int ways, int... spans) {
        LoosePlug x = new LoosePlug();
        for (int span : spans) {
            x.part(0, ways, 1, span, 1);
        }
        return x;
    }

    private static void spans() {
        Sentence.says("SPAN of a WAY: the sum of the SPANS of its PARTS, or the root (cut) of the sum of their squares.");
        LoosePlug x = withSpans(1, 3, 4);
        Check.due("sum", x.span(0, 0), 7);
        Check.due("root of 25", x.span(0, 1), 5);
        Check.due("the other way", x.span(1, 0), 0);
        Check.due("the other way, root", x.span(1, 1), 0);
        Check.due("root of 35", withSpans(2, 3, 5, 1).span(1, 1), 5);
        Check.due("root of 36", withSpans(2, 3, 5, 1, 1).span(1, 1), 6);
        Check.due("root of 24", withSpans(3, 2, 4, 2).span(1, 1), 4);
        Check.due("root of 0", withSpans(3, 0, 0).span(0, 1), 0);
        Check.due("root of 1", withSpans(3, 0, 1).span(0, 1), 1);
        Check.due("root of 9801", withSpans(3, 99).span(0, 1), 99);
        LoosePlug most = withSpans(3, 99, 99, 99, 99, 99, 99, 99, 99, 99, 99);
        Check.due("the greatest sum", most.span(0, 0), 990);
        Check.due("root of 98010", most.span(0, 1), 313);
        for (int a = 0; a < 100; a += 7) {
            for (int b = 0; b < 100; b += 9) {
                LoosePlug y = withSpans(1, a, b);
                long root = y.span(0, 1);
                Check.holds("not above " + a + ", " + b, root * root <= a * a + b * b);
                Check.holds("nor below " + a + ", " + b, (root + 1) * (root + 1) > a * a + b * b);
            }
        }
    }

    private static void sure() {
        Sentence.says("SURE: how far the sum of SOON of all RUNS of the WAY is from 0, by how many these are times that root.");
        LoosePlug x = withSpans(1, 6, 8);
        x.older(0, 0, 9);
        Check.due("9 by 10", x.sure(0), 0);
        x.older(0, 0, 11);
        Check.due("20 by 20", x.sure(0), 1);
        x.older(0, 0, 39);
        Check.due("59 by 30", x.sure(0), 1);
        x.older(0, 0, -139);
        Check.due("-80 by 40", x.sure(0), 2);
        x.older(0, 1, 9999);
        Check.due("the other way counts nothing", x.sure(0), 2);
        x.older(0, 0, -19);
        Check.due("-99 by 50", x.sure(0), 1);
        LoosePlug y = withSpans(2, 1);
        for (int r = 0; r < 40; r++) {
            y.older(0, 1, -9999);
        }
        Check.due("all forty", y.sure(1), 9999);
        LoosePlug last = told(new int[] {0, 6}, new int[] {999, 15});
        last.part(0, 2, 1, 3, 1);
        Check.due("21 by 6, the first day and the last", last.sure(1), 3);
    }

    private static void could() {
        Sentence.says("COULD x: PARTS of the WAY whose SPAN is as much as x or more, without signs.");
        LoosePlug x = withSpans(1, 0, 1, 98, 99);
        x.part(0, 2, 1, 99, 1);
        int[] v = {0, 1, 2, 98, 99, 100, 9999};
        int[] due = {15, 14, 12, 12, 8, 0, 0};
        for (int k = 0; k < v.length; k++) {
            Check.due("could " + v[k], x.could(0, v[k]), due[k]);
            Check.due("could " + -v[k], x.could(0, -v[k]), due[k]);
        }
        Check.due("the other way", x.could(1, 99), 16);
        Check.due("the other way, more", x.could(1, 100), 0);
    }

    private static void fits() {
        Sentence.says("FITS x: how many rows (i, j, a, b): PARTS i below j of the WAY, a and b not 0, as much as the SPANS of i and j "
                + "or less, without signs, a and b together x.");
        LoosePlug x = withSpans(1, 2, 3);
        // a is one of -2 -1 1 2 and b one of -3 -2 -1 1 2 3.
        int[] due = {4, 3, 2, 2, 2, 1, 0};
        for (int v = 0; v < due.length; v++) {
            Check.due("fits " + v, x.fits(0, v), due[v]);
            Check.due("fits " + -v, x.fits(0, -v), due[v]);
        }
        Check.due("none in the other way", x.fits(1, 0), 0);
        Check.due("one part alone", withSpans(3, 9).fits(0, 0), 0);
        Check.due("one with a span of 0", withSpans(3, 9, 0).fits(0, 5), 0);
        Check.due("two with a span of 0", withSpans(3, 0, 0).fits(0, 0), 0);
        Check.due("three twos", withSpans(3, 1, 1, 1).fits(0, 2), 3);
        Check.due("three twos, 0", withSpans(3, 1, 1, 1).fits(1, 0), 6);
        LoosePlug y = withSpans(1, 5);
        y.part(0, 2, 1, 5, 1);
        Check.due("in unlike ways", y.fits(0, 2), 0);
        y.part(0, 3, 1, 1, 1);
        Check.due("with one in both, way 0", y.fits(0, 6), 1);
        Check.due("with one in both, way 1", y.fits(1, -6), 1);
        LoosePlug most = withSpans(3, 99, 99, 99, 99, 99, 99, 99, 99, 99, 99);
        Check.due("the most", most.fits(0, 0), 45 * 198);
        Check.due("one for each two", most.fits(0, 198), 45);
        Check.due("none above", most.fits(0, 199), 0);
    }

    private static void jumpDue(String what, LoosePlug x, int way, long day, long above, long below) {
        Check.due(what + ", the day", x.jump(way, 0), day);
        Check.due(what + ", above", x.jump(way, 1), above);
        Check.due(what + ", below", x.jump(way, 2), below);
    }

    private static LoosePlug told(int[]... runs) {
        LoosePlug x = Check.onDay(999);
        for (int[] run : runs) {
            x.older(run[0], 1, run[1]);
        }
        return x;
    }

    /** Runs of days 1 to 4 in one of the 24 orders, with a SOON of 60 from a day on. */
    private static int[][] fourDays(int order, int step) {
        List<Integer> days = new ArrayList<>(List.of(1, 2, 3, 4));
        int[][] runs = new int[4][];
        int rest = order;
        for (int k = 0; k < 4; k++) {
            int day = days.remove(rest % days.size());
            rest /= days.size() + 1;
            runs[k] = new int[] {day, day < step ? 0 : 60};
        }
        return runs;
    }

    private static void jumps() {
        Sentence.says("JUMP of a WAY: its RUNS by days, then numbers; put in two, each not empty:");
        LoosePlug x = told(new int[] {0, 10}, new int[] {999, 3});
        jumpDue("two", x, 1, 999, -7, 1);
        x.older(0, 0, 9999);
        jumpDue("the other way's run counts nothing", x, 1, 999, -7, 1);
        Check.due("one run of way 0", x.jump(0, 0), NO);
        jumpDue("by days", told(new int[] {9, 50}, new int[] {3, 0}, new int[] {6, 0}), 1, 9, 50, 1);
        for (int order = 0; order < 24; order++) {
            for (int step = 2; step <= 4; step++) {
                jumpDue("by days, told in order " + order, told(fourDays(order, step)), 1, step, 60, 1);
            }
        }
        jumpDue("by numbers on a day", told(new int[] {3, 0}, new int[] {3, 0}, new int[] {3, 60}, new int[] {2, 0}), 1, 3, 60, 1);
        jumpDue("by numbers, turned", told(new int[] {3, 60}, new int[] {3, 0}, new int[] {3, 0}, new int[] {4, 0}), 1, 3, -60, 1);
        Sentence.says("RISE is the mean SOON of those behind less that of those ahead;");
        jumpDue("1 | 4 6", told(new int[] {1, 1}, new int[] {2, 4}, new int[] {3, 6}), 1, 2, 4, 1);
        jumpDue("1 | 4 7", told(new int[] {1, 1}, new int[] {2, 4}, new int[] {3, 7}), 1, 2, 9, 2);
        jumpDue("6 | 3 1", told(new int[] {1, 6}, new int[] {2, 3}, new int[] {3, 1}), 1, 2, -4, 1);
        jumpDue("0 0 0 | 1", told(new int[] {1, 0}, new int[] {2, 0}, new int[] {3, 0}, new int[] {4, 1}), 1, 4, 1, 1);
        jumpDue("no rise", told(new int[] {1, 5}, new int[] {2, 5}, new int[] {3, 5}), 1, 2, 0, 1);
        Sentence.says("JUMP is the cut with the greatest RISE without sign, of several the first: the day of the first one "
                + "behind, and RISE.");
        jumpDue("a fall as far as the rise behind it", told(new int[] {1, 0}, new int[] {2, -6}, new int[] {3, 0}), 1, 2, -3, 1);
        jumpDue("a rise as far as the fall behind it", told(new int[] {1, 0}, new int[] {2, 6}, new int[] {3, 0}), 1, 2, 3, 1);
        jumpDue("the second further", told(new int[] {1, 0}, new int[] {2, 6}, new int[] {3, -1}), 1, 3, -4, 1);
        jumpDue("the second further by a half", told(new int[] {1, 0}, new int[] {2, 5}, new int[] {3, 11}), 1, 3, 17, 2);
        LoosePlug most = new LoosePlug();
        most.later(39);
        for (int r = 0; r < 40; r++) {
            most.older(r, 0, r < 39 ? -9999 : 9999);
        }
        jumpDue("the furthest of forty", most, 0, 39, 19998, 1);
    }

    private static void months() {
        Sentence.says("MONTH m (0 to 33): days 30 m to 30 m + 29.");
        for (int m = 0; m < 34; m++) {
            int last = Math.min(999, 30 * m + 29);
            LoosePlug x = told(new int[] {30 * m, 8}, new int[] {last, 4}, new int[] {Math.max(0, 30 * m - 1), m == 0 ? 6 : 100},
                    new int[] {Math.min(999, 30 * m + 30), m == 33 ? 6 : -100});
            Check.due("month " + m, x.month(m, 1, 0), 6);
            Check.due("month " + m + ", below", x.month(m, 1, 1), 1);
        }
    }

    private static void promises22to25() {
        Sentence.says("SPAN of a WAY: what = 0 the sum, 1 the root. BAD.");
        LoosePlug x = withSpans(1, 9, 9);
        Check.due("the sum", x.span(0, 0), 18);
        Check.due("the root", x.span(0, 1), 12);
        int[] whats = {-1, 2, LEAST, MOST};
        for (int what : whats) {
            Refused.always("span what " + what, BAD, p -> p.span(0, what));
        }
        for (int way : NO_WAYS) {
            Refused.always("span of way " + way, BAD, p -> p.span(way, 0));
        }

        Sentence.says("SURE. BAD: no such WAY; NONE: no RUN of it; -15: the root is 0.");
        for (int way : NO_WAYS) {
            Refused.always("sure of way " + way, BAD, p -> p.sure(way));
        }
        Refused.in(Refused.World.NEW, "sure of way 0", NONE, p -> p.sure(0));
        Refused.in(Refused.World.NEW, "sure of way 1, of which no run is", NONE, p -> {
            Check.due("way 0 alone", p.sure(0), NONE);
            return p.sure(1);
        });
        Check.due("none, though there is a span", x.sure(0), NONE);
        x.older(0, 1, 5);
        Check.due("none, though the other way has a run", x.sure(0), NONE);
        Check.due("the root is 0", x.sure(1), -15);
        x.older(0, 0, 24);
        Check.due("24 by 12", x.sure(0), 2);
        LoosePlug y = withSpans(3, 0, 0);
        y.older(0, 0, 0);
        Check.due("0 by 0", y.sure(0), -15);
        y.part(0, 1, 1, 1, 1);
        Check.due("0 by 1", y.sure(0), 0);

        Sentence.says("COULD, as bits. BAD: no such WAY, x isn't -9999 to 9999.");
        Check.due("9999", x.could(0, 9999), 0);
        Check.due("-9999", x.could(0, -9999), 0);
        int[] far = {10000, -10000, LEAST, MOST};
        for (int v : far) {
            Refused.always("could " + v, BAD, p -> p.could(0, v));
        }
        for (int way : NO_WAYS) {
            Refused.always("could of way " + way, BAD, p -> p.could(way, 0));
        }

        Sentence.says("FITS. BAD likewise.");
        Check.due("9999", x.fits(0, 9999), 0);
        Check.due("-9999", x.fits(0, -9999), 0);
        Check.due("18", x.fits(0, 18), 1);
        for (int v : far) {
            Refused.always("fits " + v, BAD, p -> p.fits(0, v));
        }
        for (int way : NO_WAYS) {
            Refused.always("fits of way " + way, BAD, p -> p.fits(way, 0));
        }
    }

    private static void promises26and27() {
        Sentence.says("JUMP: what = 0 the day, 1 RISE above the line, 2 below it. NO: no such WAY, what, fewer than two "
                + "RUNS of it.");
        LoosePlug x = told(new int[] {7, 1}, new int[] {8, 3}, new int[] {9, 4});
        jumpDue("5 by 2", x, 1, 8, 5, 2);
        int[] whats = {-1, 3, LEAST, MOST};
        for (int what : whats) {
            Refused.always("jump what " + what, NO, p -> p.jump(0, what));
        }
        for (int way : NO_WAYS) {
            Refused.always("jump of way " + way, NO, p -> p.jump(way, 0));
        }
        for (int what = 0; what < 3; what++) {
            int asked = what;
            Refused.in(Refused.World.NEW, "jump without runs", NO, p -> p.jump(0, asked));
            Check.due("one run", told(new int[] {7, 1}).jump(1, what), NO);
        }
        jumpDue("two runs", told(new int[] {7, 1}, new int[] {7, 1}), 1, 7, 0, 1);

        Sentence.says("The mean SOON of a WAY in a MONTH, a part of the fraction. NO: none such, no RUN there.");
        LoosePlug y = told(new int[] {0, -5}, new int[] {0, -4}, new int[] {999, 7});
        Check.due("above", y.month(0, 1, 0), -9);
        Check.due("below", y.month(0, 1, 1), 2);
        Check.due("month 33", y.month(33, 1, 0), 7);
        Check.due("no run of way 0", y.month(0, 0, 0), NO);
        Check.due("no run there", y.month(1, 1, 0), NO);
        int[] months = {-1, 34, LEAST, MOST};
        for (int m : months) {
            Refused.always("month " + m, NO, p -> p.month(m, 0, 0));
        }
        for (int way : NO_WAYS) {
            Refused.always("month of way " + way, NO, p -> p.month(0, way, 0));
        }
        int[] parts = {-1, 2, LEAST, MOST};
        for (int part : parts) {
            Refused.always("month part " + part, NO, p -> p.month(0, 0, part));
        }
        Refused.in(Refused.World.MIDDLE, "month without a run", NO, p -> p.month(2, 0, 0));
    }
}
