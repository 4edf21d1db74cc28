/** Promises 22 to 27: how sure. */
final class SureTest {
    private static final int BAD = -1, NONE = -3, NO = Integer.MIN_VALUE;

    public static void main(String[] args) {
        promise22();
        promise23();
        promise24();
        promise25();
        promise26();
        promise27();
        Check.end();
    }

    private static void promise22() {
        LoosePlug x = new LoosePlug();
        Check.due("no parts", x.span(0, 0), 0);
        Check.due("no parts, root", x.span(1, 1), 0);
        x.part(0, 1, 1, 3, 1);
        x.part(0, 3, 1, 4, 1);
        Check.due("sum", x.span(0, 0), 7);
        Check.due("root", x.span(0, 1), 5);
        Check.due("way 1", x.span(1, 0), 4);
        x.part(0, 1, 1, 3, 1);
        Check.due("root of 34 is cut", x.span(0, 1), 5);
        x.part(0, 1, 1, 1, 1);
        Check.due("root of 35 is cut", x.span(0, 1), 5);
        x.part(0, 1, 1, 1, 1);
        Check.due("root of 36", x.span(0, 1), 6);
        Check.due("way 2", x.span(2, 0), BAD);
        Check.due("way -1", x.span(-1, 0), BAD);
        Check.due("what 2", x.span(0, 2), BAD);
        Check.due("what -1", x.span(0, -1), BAD);
        LoosePlug y = new LoosePlug();
        for (int i = 0; i < 10; i++) {
            y.part(0, 3, 1, 99, 1);
        }
        Check.due("most", y.span(1, 0), 990);
        Check.due("root of 98010", y.span(1, 1), 313);
    }

    private static void promise23() {
        LoosePlug x = new LoosePlug();
        Check.due("way 2", x.sure(2), BAD);
        Check.due("way -1", x.sure(-1), BAD);
        Check.due("none ahead of by 0", x.sure(0), NONE);
        x.older(0, 0, 59);
        Check.due("by 0", x.sure(0), -15);
        x.part(0, 1, 1, 10, 1);
        Check.due("59 by 10", x.sure(0), 5);
        Check.due("the other way", x.sure(1), NONE);
        x.older(0, 1, 5000);
        Check.due("the other way is by 0", x.sure(1), -15);
        x.older(0, 0, -160);
        Check.due("101 by 20", x.sure(0), 5);
        x.older(0, 0, -49);
        Check.due("150 by 30", x.sure(0), 5);
    }

    private static void promise24() {
        LoosePlug x = new LoosePlug();
        x.part(0, 1, 1, 9, 1);
        x.part(0, 2, 1, 10, 1);
        x.part(0, 3, 1, 11, 1);
        x.part(0, 3, 1, 0, 1);
        Check.due("0", x.could(0, 0), 13);
        Check.due("9", x.could(0, 9), 5);
        Check.due("-10", x.could(0, -10), 4);
        Check.due("way 1", x.could(1, 10), 6);
        Check.due("9999", x.could(1, 9999), 0);
        Check.due("-9999", x.could(1, -9999), 0);
        Check.due("10000", x.could(1, 10000), BAD);
        Check.due("-10000", x.could(1, -10000), BAD);
        Check.due("least", x.could(1, Integer.MIN_VALUE), BAD);
        Check.due("way 2", x.could(2, 0), BAD);
        Check.due("way -1", x.could(-1, 0), BAD);
    }

    private static void promise25() {
        int[] spans = {0, 1, 5, 5, 99, 7, 30};
        int[] ways = {3, 1, 3, 2, 1, 3, 2};
        LoosePlug x = chain(spans, ways);
        for (int way = 0; way < 2; way++) {
            LoosePlug y = chain(spans, ways);
            for (int v = -210; v <= 210; v++) {
                Check.due("fits(" + way + ", " + v + ")", y.fits(way, v), rows(spans, ways, way, v));
            }
        }
        Check.due("9999", x.fits(0, 9999), 0);
        Check.due("-9999", x.fits(0, -9999), 0);
        Check.due("10000", x.fits(0, 10000), BAD);
        Check.due("-10000", x.fits(0, -10000), BAD);
        Check.due("most", x.fits(0, Integer.MAX_VALUE), BAD);
        Check.due("way 2", x.fits(2, 0), BAD);
        Check.due("way -1", x.fits(-1, 0), BAD);
    }

    private static LoosePlug chain(int[] spans, int[] ways) {
        LoosePlug x = new LoosePlug();
        for (int i = 0; i < spans.length; i++) {
            x.part(0, ways[i], 1, spans[i], 1);
        }
        return x;
    }

    private static int rows(int[] spans, int[] ways, int way, int x) {
        int count = 0;
        for (int i = 0; i < spans.length; i++) {
            for (int j = i + 1; j < spans.length; j++) {
                boolean in = (ways[i] & ways[j] & 1 << way) != 0;
                for (int a = -spans[i]; in && a <= spans[i]; a++) {
                    for (int b = -spans[j]; b <= spans[j]; b++) {
                        count += a != 0 && b != 0 && a + b == x ? 1 : 0;
                    }
                }
            }
        }
        return count;
    }

    private static void jumpDue(LoosePlug x, int way, long day, long above, long below) {
        Check.due("the day", x.jump(way, 0), day);
        Check.due("above", x.jump(way, 1), above);
        Check.due("below", x.jump(way, 2), below);
    }

    private static void promise26() {
        LoosePlug x = new LoosePlug();
        x.later(99);
        Check.due("no run", x.jump(0, 0), NO);
        x.older(50, 0, 8);
        x.older(10, 1, 3);
        Check.due("one run", x.jump(0, 1), NO);
        x.older(20, 0, 8);
        jumpDue(x, 0, 50, 0, 1);
        x.older(50, 0, 8);
        jumpDue(x, 0, 50, 0, 1);
        x.older(60, 1, -3);
        jumpDue(x, 1, 60, -6, 1);
        // The day's runs stand by their numbers: 8 (20), 8, 8 (50), then 5, 9 (50).
        x.older(50, 0, 5);
        x.older(50, 0, 9);
        jumpDue(x, 0, 50, 7, 4);
        Check.due("way 2", x.jump(2, 0), NO);
        Check.due("way -1", x.jump(-1, 0), NO);
        Check.due("what 3", x.jump(0, 3), NO);
        Check.due("what -1", x.jump(0, -1), NO);
        LoosePlug y = new LoosePlug();
        y.later(9);
        y.older(9, 0, 0);
        y.older(1, 0, 0);
        y.older(5, 0, 6);
        // 0 | 6 0 rises by 3, 0 6 | 0 falls by 3: of several the first.
        jumpDue(y, 0, 5, 3, 1);
        y.older(0, 0, 9999);
        jumpDue(y, 0, 1, -9997, 1);
        LoosePlug z = new LoosePlug();
        z.later(1);
        z.older(1, 1, -1);
        z.older(0, 1, 4);
        z.older(1, 1, -2);
        jumpDue(z, 1, 1, -11, 2);
        z.older(1, 1, 7);
        // 4 -1 | -2 7 rises by 1, 4 | -1 -2 7 falls by 8/3, 4 -1 -2 | 7 rises by 20/3.
        jumpDue(z, 1, 1, 20, 3);
    }

    private static void promise27() {
        LoosePlug x = new LoosePlug();
        for (int k = 0; k < 10; k++) {
            x.later(99);
        }
        x.later(9);
        x.older(29, 0, 10);
        x.older(0, 0, -4);
        x.older(30, 0, 7);
        x.older(29, 1, 100);
        x.older(999, 1, 0);
        x.older(990, 0, -3);
        x.older(999, 0, -6);
        x.older(989, 0, 1);
        x.older(999, 0, -1);
        Check.due("6 by 2", x.month(0, 0, 0), 3);
        Check.due("6 by 2, below", x.month(0, 0, 1), 1);
        Check.due("month 1", x.month(1, 0, 0), 7);
        Check.due("way 1", x.month(0, 1, 0), 100);
        Check.due("0 by 1", x.month(33, 1, 0), 0);
        Check.due("0 by 1, below", x.month(33, 1, 1), 1);
        Check.due("-10 by 3", x.month(33, 0, 0), -10);
        Check.due("-10 by 3, below", x.month(33, 0, 1), 3);
        Check.due("month 32", x.month(32, 0, 0), 1);
        Check.due("no run", x.month(2, 0, 0), NO);
        Check.due("no run of the way", x.month(1, 1, 1), NO);
        Check.due("month -1", x.month(-1, 0, 0), NO);
        Check.due("month 34", x.month(34, 0, 0), NO);
        Check.due("month most", x.month(Integer.MAX_VALUE, 0, 0), NO);
        Check.due("way 2", x.month(0, 2, 0), NO);
        Check.due("way -1", x.month(0, -1, 0), NO);
        Check.due("part 2", x.month(0, 0, 2), NO);
        Check.due("part -1", x.month(0, 0, -1), NO);
    }
}
