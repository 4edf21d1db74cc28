/** Promises 12 to 21: stories. */
final class StoryTest {
    private static final int BAD = -1, FULL = -2, NONE = -3, NO = Integer.MIN_VALUE;

    public static void main(String[] args) {
        promise12();
        promise13();
        faults();
        promise14();
        promise15();
        promise16();
        promise17();
        promise18();
        promise19();
        promise20();
        promise21();
        Check.end();
    }

    private static void promise12() {
        LoosePlug x = new LoosePlug();
        Check.due("n 0", x.feed(0, 0), BAD);
        Check.due("n 9", x.feed(0, 9), BAD);
        Check.due("n -1", x.feed(0, -1), BAD);
        Check.due("n least", x.feed(0, Integer.MIN_VALUE), BAD);
        Check.due("n most", x.feed(0, Integer.MAX_VALUE), BAD);
        for (int k = 1; k <= 24; k++) {
            Check.due("feed", x.feed(0x2020202020202020L, 8), 8 * k);
        }
        Check.due("199", x.feed(0x2020202020202020L, 7), 199);
        Check.due("above 200", x.feed(0, 2), FULL);
        Check.due("bad ahead of full", x.feed(0, 9), BAD);
        Check.due("stays", x.many(5), 199);
        Check.due("200", x.feed(32, 1), 200);
        Check.due("full", x.feed(0, 1), FULL);
        Check.due("200 blanks", x.story(1), -300);
        // Only the lowest n bytes come: the rest of eight is not on the tape.
        x.feed(0x20746867696cL | 0x7878L << 48, 6);
        x.feed(0x2d207962L, 4);
        x.feed(0x37L, 1);
        Check.due("lowest first", x.story(9), 0);
        Check.due("light by -7", x.gives(0, 1, 0), -7);
        x.feed(-1L, 8);
        Check.due("bytes of 255", x.story(1), -100);
    }

    private static void promise13() {
        LoosePlug x = new LoosePlug();
        Check.feed(x, "nothing");
        Check.due("weight 0", x.story(0), BAD);
        Check.due("weight 100", x.story(100), BAD);
        Check.due("the tape stays", x.many(5), 7);
        Check.due("weight 99", x.story(99), 0);
        Check.due("the tape is used up", x.many(5), 0);
        Check.due("a fault", Check.story(x, "nothin", 1), -100);
        Check.due("used up by a fault too", x.many(5), 0);
        for (int s = 1; s < 8; s++) {
            Check.due("story", Check.story(x, "light by " + s, s), s);
        }
        Check.feed(x, "nothing");
        Check.due("full", x.story(1), FULL);
        Check.due("bad ahead of full", x.story(0), BAD);
        Check.due("the tape stays when full", x.many(5), 7);
        Check.due("stories", x.many(2), 8);
        Check.storyDue("part 1 by 2", 0);
        Check.storyDue("part1by2from3andpart4by-5", -113);
        Check.storyDue("part1by2from3 and part4by-5", 0);
        Check.storyDue("  part  0007 by - 9999  from 9999   ", 0);
        Check.storyDue("light by -0", 0);
        Check.storyDue("   nothing   ", 0);
    }

    private static void faults() {
        Check.storyDue("", -100);
        Check.storyDue("   ", -103);
        Check.storyDue("part 1 by  ", -111);
        Check.storyDue("nothing nothing", -108);
        Check.storyDue("light by 5 from 3", -111);
        Check.storyDue("light by 5 and part 1 by 1", -111);
        Check.storyDue("part 1 by 1 and light by 2", -116);
        Check.storyDue("part 1 by 1 and nothing", -116);
        Check.storyDue("part -1 by 1", -105);
        Check.storyDue("part 1 by +1", -110);
        Check.storyDue("part 1 by 00001", -110);
        Check.storyDue("part 1 by 1 from 12345", -117);
        Check.storyDue("part 1 from 1 by 1", -107);
        Check.storyDue("part 1 by 1 or part 2 by 2", -112);
        Check.storyDue("parts 1 by 1", -100);
        Check.storyDue("partz 1 by 1", -100);
        Check.storyDue("part 1 zby 1", -107);
        Check.storyDue("part 1 ay 1", -107);
        Check.storyDue("part 1 by 1 anda", -112);
        Check.storyDue("part{1 by 1", -104);
        Check.storyDue("part`1 by 1", -104);
        Check.storyDue("part 1 by 1:", -111);
        Check.storyDue("part 1 by 1/", -111);
        Check.storyDue("part 1 bye 1", -107);
        Check.storyDue("Part 1 by 1", -100);
        Check.storyDue("part\t1 by 1", -104);
        Check.storyDue("part 1 by 1\n", -111);
        Check.storyDue("part 1 by 1.", -111);
        Check.storyDue("part 1 by 1 and", -115);
        Check.storyDue("part 1 by 1 from", -116);
        Check.storyDue("part 1 by 1 from 1 and part", -127);
        Check.storyDue("day", -100);
        Check.storyDue("part 1 by 1 from 1 from 2", -119);
        String clause = "part 1 by 1 from 2 and ";
        Check.storyDue(clause + clause + clause + "part 2 by 2", 0);
        Check.storyDue(clause + clause + clause + "part 2 by 2 and", -100 - 69 - 12);
        Check.storyDue(clause + clause + clause + "part 2 by 2 and 7", -100 - 69 - 12);
        Check.storyDue("\u00e9", -100);
    }

    /** Parts 0, 1 and 2 are in way 0, in way 1, in both; they cost 5, 3 and 3 hours. */
    static LoosePlug threeParts() {
        LoosePlug x = new LoosePlug();
        x.part(0, 1, 10, 1, 5);
        x.part(0, 2, 10, 1, 3);
        x.part(0, 3, 10, 1, 3);
        return x;
    }

    private static void promise14() {
        LoosePlug x = threeParts();
        Check.story(x, "nothing", 1);
        Check.story(x, "light by -44", 1);
        Check.story(x, "part 0 by 1 and part 1 by 20 from 5 and part 2 by 300 from 6 and part 3 by 4000", 1);
        Check.story(x, "part 2 by 5 from 999 and part 2 by 7 from 3 and part 2 by -1 from 1000", 1);
        for (int way = 0; way < 2; way++) {
            Check.due("nothing", x.gives(0, way, 999), 0);
            Check.due("light", x.gives(1, way, 0), -44);
        }
        Check.due("way 0 day 5", x.gives(2, 0, 5), 1);
        Check.due("way 0 day 6", x.gives(2, 0, 6), 301);
        Check.due("way 1 day 4", x.gives(2, 1, 4), 0);
        Check.due("way 1 day 5", x.gives(2, 1, 5), 20);
        Check.due("way 1 day 6", x.gives(2, 1, 6), 320);
        Check.due("twice one part", x.gives(3, 0, 998), 7);
        Check.due("twice one part, last day", x.gives(3, 1, 999), 12);
        x.part(0, 2, 1, 1, 1);
        Check.due("a part that came later counts", x.gives(2, 1, 6), 4320);
        Check.due("but not in the other way", x.gives(2, 0, 6), 301);
        Check.due("no such story", x.gives(4, 0, 0), NO);
        Check.due("story -1", x.gives(-1, 0, 0), NO);
        Check.due("way 2", x.gives(0, 2, 0), NO);
        Check.due("way -1", x.gives(0, -1, 0), NO);
        Check.due("day -1", x.gives(0, 0, -1), NO);
        Check.due("day 1000", x.gives(0, 0, 1000), NO);
    }

    private static void promise15() {
        LoosePlug x = threeParts();
        Check.story(x, "nothing", 1);
        Check.story(x, "light by 9", 1);
        Check.story(x, "part 1 by 20 from 2 and part 1 by -3 and part 0 by 8", 1);
        Check.due("nothing", x.finds(0, 1), 0);
        Check.due("light", x.finds(1, 1), 0);
        Check.due("ahead of from", x.finds(2, 1), -3);
        Check.due("another part", x.finds(2, 0), 8);
        Check.due("no clause", x.finds(2, 2), 0);
        x.later(2);
        Check.due("from today", x.finds(2, 1), 17);
        Check.due("no such story", x.finds(3, 0), NO);
        Check.due("no such part", x.finds(0, 3), NO);
        Check.due("story -1", x.finds(-1, 0), NO);
        Check.due("part -1", x.finds(0, -1), NO);
    }

    private static void promise16() {
        LoosePlug x = threeParts();
        x.later(10);
        Check.story(x, "nothing", 1);
        Check.story(x, "part 2 by 10 from 5", 1);
        Check.due("no runs", x.miss(1), 0);
        x.older(4, 0, 3);
        x.older(5, 0, 3);
        x.older(9, 1, -20);
        Check.due("nothing", x.miss(0), 26);
        Check.due("part 2", x.miss(1), 3 + 7 + 30);
        Check.due("no such story", x.miss(2), BAD);
        Check.due("story -1", x.miss(-1), BAD);
    }

    private static void promise17() {
        LoosePlug x = new LoosePlug();
        Check.due("none", x.likely(), NONE);
        x.older(0, 0, 10);
        Check.story(x, "light by 4", 1);
        Check.story(x, "light by 13", 1);
        Check.story(x, "light by 7", 1);
        Check.due("of several the first", x.likely(), 1);
        Check.story(x, "light by 11", 1);
        Check.due("the least", x.likely(), 3);
        Check.due("fact", x.fact(5), 1);
    }

    private static void promise18() {
        LoosePlug x = new LoosePlug();
        Check.due("no such story", x.odds(0, 0), BAD);
        Check.story(x, "nothing", 6);
        Check.due("alone", x.odds(0, 0), 1);
        Check.due("alone, below", x.odds(0, 1), 1);
        Check.story(x, "light by 1000", 10);
        Check.due("6 by 16", x.odds(0, 0), 3);
        Check.due("6 by 16, below", x.odds(0, 1), 8);
        Check.due("part 2", x.odds(0, 2), BAD);
        Check.due("part -1", x.odds(0, -1), BAD);
        Check.due("story 2", x.odds(2, 0), BAD);
        int[] far = {2, -2, 3, -3, 10, -10, 11, -11, 40, -40, 41, -41};
        long worth = 6;
        for (int k = 0; k < far.length; k++) {
            x.older(0, 0, far[k]);
            int d = Math.abs(far[k]);
            worth *= d <= 2 ? 8 : d <= 10 ? 4 : d <= 40 ? 2 : 1;
            long g = gcd(worth, worth + 10);
            Check.due("odds above " + k, x.odds(0, 0), worth / g);
            Check.due("odds below " + k, x.odds(0, 1), (worth + 10) / g);
            Check.due("other above " + k, x.odds(1, 0), 10 / g);
        }
        // The thirteenth run puts the first (worth 8) away.
        x.older(0, 0, 500);
        worth /= 8;
        long g = gcd(worth, worth + 10);
        Check.due("the last 12", x.odds(0, 1), (worth + 10) / g);
        LoosePlug y = new LoosePlug();
        for (int s = 0; s < 8; s++) {
            Check.story(y, "nothing", 99);
        }
        for (int r = 0; r < 40; r++) {
            y.older(0, 1, 0);
        }
        Check.due("eight alike", y.odds(7, 1), 8);
        LoosePlug z = new LoosePlug();
        Check.story(z, "nothing", 98);
        Check.story(z, "light by 99", 99);
        for (int r = 0; r < 12; r++) {
            z.older(0, 1, 0);
        }
        Check.due("the greatest", z.odds(0, 0), 98L << 36);
        Check.due("the greatest, below", z.odds(0, 1), (98L << 36) + 99);
    }

    private static long gcd(long a, long b) {
        return b == 0 ? a : gcd(b, a % b);
    }

    private static void promise19() {
        LoosePlug x = threeParts();
        Check.story(x, "part 0 by 5 from 3", 1);
        Check.story(x, "light by 5", 1);
        Check.story(x, "nothing", 1);
        Check.story(x, "part 1 by 5", 1);
        Check.due("day 2", x.same(0, 2, 2), 3);
        Check.due("day 3", x.same(0, 2, 3), 2);
        Check.due("light, day 3", x.same(0, 1, 3), 1);
        Check.due("light, day 2", x.same(1, 0, 2), 0);
        Check.due("way 1", x.same(1, 3, 0), 2);
        Check.due("itself", x.same(1, 1, 0), 3);
        Check.due("story 4", x.same(0, 4, 0), BAD);
        Check.due("story -1", x.same(-1, 0, 0), BAD);
        Check.due("day -1", x.same(0, 1, -1), BAD);
        Check.due("day 1000", x.same(0, 1, 1000), BAD);
        Check.due("day 999", x.same(0, 1, 999), 1);
    }

    private static void promise20() {
        LoosePlug x = threeParts();
        Check.due("no stories", x.next(0, 0), NONE);
        Check.due("no stories", x.next(1, 0), BAD);
        Check.story(x, "part 0 by 5", 1);
        Check.story(x, "part 1 by 5", 1);
        Check.story(x, "part 2 by 5 from 4", 1);
        Check.due("one story", x.next(1, 0), NONE);
        Check.due("one story, how many", x.next(2, 1), NONE);
        Check.due("two, fewest hours", x.next(3, 0), 1);
        Check.due("two, how many", x.next(3, 1), 1);
        Check.due("not the cheapest but the only", x.next(5, 0), 0);
        Check.due("three, today", x.next(7, 0), 1);
        Check.due("three, today, how many", x.next(7, 1), 2);
        x.later(4);
        Check.due("the least number of the cheapest", x.next(6, 0), 1);
        Check.due("three, later", x.next(7, 0), 1);
        Check.story(x, "part 0 by 6", 1);
        Check.due("the most twos, not the cheapest", x.next(15, 0), 0);
        Check.due("the most twos", x.next(15, 1), 5);
        Check.due("what 2", x.next(7, 2), BAD);
        Check.due("what -1", x.next(7, -1), BAD);
        Check.due("set 16", x.next(16, 0), BAD);
        Check.due("set -1", x.next(-1, 0), BAD);
        Check.due("set least", x.next(Integer.MIN_VALUE, 0), BAD);
        for (int s = 4; s < 8; s++) {
            Check.story(x, "nothing", 1);
        }
        Check.due("all stories", x.next(255, 1), 13);
        Check.due("set 256", x.next(256, 0), BAD);
    }

    private static void promise21() {
        LoosePlug x = new LoosePlug();
        Check.due("nothing to part", x.least(0, 0), 0);
        Check.due("no hours", x.least(0, 1), 0);
        x.part(0, 1, 1, 1, 4);
        x.part(0, 1, 1, 1, 2);
        x.part(0, 1, 1, 1, 2);
        x.part(0, 1, 1, 1, 1);
        Check.story(x, "nothing", 1);
        Check.story(x, "part 0 by 1 and part 1 by 1", 1);
        Check.story(x, "part 0 by 2 and part 2 by 1", 1);
        Check.due("two", x.least(3, 0), 2);
        Check.due("two, hours", x.least(3, 1), 2);
        // Part 0 alone costs as much as 1 and 2 together, and is the lesser set.
        Check.due("of several the least set", x.least(7, 0), 1);
        Check.due("hours of it", x.least(7, 1), 4);
        Check.story(x, "light by 4", 1);
        Check.due("two that no part parts count nothing", x.least(9, 0), 0);
        Check.due("nor with others", x.least(15, 0), 1);
        Check.story(x, "part 3 by 1", 1);
        Check.due("one more", x.least(31, 0), 9);
        Check.due("one more, hours", x.least(31, 1), 5);
        Check.due("what 2", x.least(0, 2), BAD);
        Check.due("what -1", x.least(0, -1), BAD);
        Check.due("set 32", x.least(32, 0), BAD);
        Check.due("set -1", x.least(-1, 1), BAD);
        LoosePlug y = new LoosePlug();
        for (int i = 0; i < 10; i++) {
            y.part(0, 1, 1, 1, 60);
        }
        Check.story(y, "nothing", 1);
        for (int s = 0; s < 7; s++) {
            Check.story(y, "part " + (s + 3) + " by 1", 1);
        }
        Check.due("six of seven", y.least(255, 1), 420);
        Check.due("seven parts", y.least(255, 0), 0x3f8);
        Check.due("without nothing, six", y.least(254, 1), 360);
        Check.due("without nothing, the least six", y.least(254, 0), 0x1f8);
    }
}
