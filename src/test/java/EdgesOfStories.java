import java.util.ArrayList;
import java.util.List;

/** Part 2 of the terms and promises 12 to 21: the tape, stories, and trials that tell them apart. */
final class EdgesOfStories {
    private static final int BAD = -1, FULL = -2, NONE = -3, NO = Integer.MIN_VALUE;
    private static final int LEAST = Integer.MIN_VALUE, MOST = Integer.MAX_VALUE;
    private static final int[] NO_WAYS = {-1, 2, LEAST, MOST}, NO_DAYS = {-1, 1000, LEAST, MOST}, NO_STORIES = {-1, 8, LEAST, MOST};

    private EdgesOfStories() {
    }

    static void test() {
        theTape();
        tokens();
        theFault();
        grammar();
        whatAStoryGives();
        whatATrialWouldFind();
        missAndLikely();
        odds();
        partsThatPart();
        leastSets();
        promises12and13();
        promises14to17();
        promises18to21();
    }

    private static void theTape() {
        Sentence.says("TEXTS. THE TAPE takes bytes, 200 at most; story() and house() use it up.");
        LoosePlug x = new LoosePlug();
        Check.feed(x, "light by 5" + " ".repeat(189));
        Check.due("199", x.many(5), 199);
        Check.due("201", x.feed(0x2020, 2), FULL);
        Check.due("200", x.feed(0x20, 1), 200);
        Check.due("one more", x.feed(0x20, 1), FULL);
        Check.due("a story", x.story(1), 0);
        Check.due("used up", x.many(5), 0);
        Check.due("what it gives", x.gives(0, 0, 0), 5);
        Check.due("an empty tape is no story", x.story(1), -100);
        Check.feed(x, " ".repeat(197) + "0<1");
        Check.due("a rule", x.house(), 0);
        Check.due("used up", x.many(5), 0);
        Check.due("it holds", x.holds(0, 0), 1);
        Check.due("an empty tape is no rule", x.house(), -100);
        Check.feed(x, " ".repeat(199) + "!");
        Check.due("the last of 200", x.house(), -299);
        for (int b = 0; b < 256; b++) {
            LoosePlug y = new LoosePlug();
            Check.feed(y, "nothing");
            y.feed(b, 1);
            boolean letter = b >= 'a' && b <= 'z';
            Check.due("byte " + b, y.story(1), b == 32 ? 0 : letter ? -100 : -107);
        }
    }

    private static void tokens() {
        Sentence.says("TOKENS, each as long as it can be:");
        Check.storyDue("lightby 5", -100);
        Check.storyDue("light by5", 0);
        Check.storyDue("part1by2", 0);
        Check.storyDue("part1by2and part1by2", 0);
        Check.storyDue("part1by2andpart1by2", -108);
        Check.houseDue("not1=1", 0);
        Check.houseDue("notday=1", -100);
        Sentence.says("WORDS (letters a to z),");
        Check.storyDue("nothing", 0);
        Check.storyDue("nothinga", -100);
        Check.storyDue("nothingz", -100);
        Check.storyDue("nothing`", -107);
        Check.storyDue("nothing{", -107);
        Check.storyDue("nothinG", -100);
        Check.storyDue("Nothing", -100);
        Check.storyDue("nothin", -100);
        Check.storyDue("othing", -100);
        String[] story = {"nothing", "light", "part", "by", "from", "and"};
        String[] ahead = {"", "", "", "light ", "part 1 by 2 ", "part 1 by 2 "};
        String[] behind = {"", " by 1", " 1 by 2", " 1", " 1", " part 1 by 2"};
        for (int k = 0; k < story.length; k++) {
            Check.storyDue(ahead[k] + story[k] + behind[k], 0);
            for (String wrong : misspelled(story[k])) {
                Check.storyDue(ahead[k] + wrong + behind[k], -100 - ahead[k].length());
            }
        }
        String[] rule = {"not", "and", "or", "day", "runs", "soon", "tried", "spent", "miss", "signed"};
        for (int k = 0; k < rule.length; k++) {
            String before = k == 1 || k == 2 ? "1=1 " : "";
            String after = k < 3 ? " 1=1" : "=1";
            Check.houseDue(before + rule[k] + after, 0);
            for (String wrong : misspelled(rule[k])) {
                Check.houseDue(before + wrong + after, -100 - before.length());
            }
        }
        Sentence.says("NUMBERS (digits as many as follow; 1 to 4, else it can't stand),");
        Check.storyDue("light by 0", 0);
        Check.storyDue("light by 9999", 0);
        Check.storyDue("light by 0009", 0);
        Check.storyDue("light by 10000", -109);
        Check.storyDue("light by 00000", -109);
        Check.storyDue("light by 12345678901234567890", -109);
        Check.storyDue("light by 9:", -110);
        Check.storyDue("light by 9/", -110);
        Check.storyDue("part 9999 by 9999 from 9999", 0);
        Check.storyDue("part 99990 by 9999 from 9999", -105);
        Check.storyDue("part 9999 by 9999 from 99990", -123);
        Check.houseDue("9999=9999", 0);
        Check.houseDue("09999=9999", -100);
        LoosePlug x = new LoosePlug();
        Check.story(x, "light by 0129", 1);
        Check.story(x, "light by - 9999", 1);
        Check.due("what a number tells", x.gives(0, 0, 0), 129);
        Check.due("the lowest", x.gives(1, 0, 0), -9999);
        Sentence.says("other bytes one each;");
        Check.storyDue("light by --5", -110);
        Check.storyDue("light by -5-", -111);
        Check.houseDue("1<>2", -102);
        Check.houseDue("((1=1))", 0);
        Check.houseDue("1--1=2", 0);
        Check.storyDue("light by \u00805", -109);
        Check.storyDue("light by \u00ff5", -109);
        Sentence.says("blanks (32) between.");
        Check.storyDue("   light   by   -   5   ", 0);
        Check.storyDue("light by 1 2", -111);
        Check.storyDue("li ght by 1", -100);
        Check.storyDue("light\u001fby 1", -105);
        Check.storyDue("light!by 1", -105);
        Check.storyDue("light\tby 1", -105);
        Check.storyDue("light\nby 1", -105);
        Check.storyDue("light\u0000by 1", -105);
        Check.storyDue("light\u00a0by 1", -105);
    }

    /** A word with each letter in turn another one, or left out, and with a letter more. */
    private static List<String> misspelled(String word) {
        List<String> all = new ArrayList<>(List.of(word + "s", "a" + word));
        for (int k = 0; k < word.length(); k++) {
            all.add(word.substring(0, k) + (char) (word.charAt(k) == 'a' ? 'b' : word.charAt(k) - 1) + word.substring(k + 1));
            all.add(word.substring(0, k) + word.substring(k + 1));
        }
        return all;
    }

    private static void theFault() {
        Sentence.says("THE FAULT is the place of the first TOKEN that can't stand there (the end, if more must come).");
        String[] words = {"part", " 3", " by", " -", " 4", " from", " 5", " and", " part", " 6", " by", " 7"};
        StringBuilder text = new StringBuilder();
        for (int k = 0; k < words.length; k++) {
            Check.storyDue(text + " ?", -100 - text.length() - 1);
            boolean whole = k == 5 || k == 7;
            Check.storyDue(text.toString(), whole ? 0 : -100 - text.length());
            Check.storyDue(text + "  ", whole ? 0 : -100 - text.length() - 2);
            text.append(words[k]);
        }
        Check.storyDue(text.toString(), 0);
        Check.storyDue("nothing ? nothing ?", -108);
        Check.storyDue("? nothing", -100);
        String[] rule = {"(", "not", " 1", " +", " -", " day", " <", " 2", " *", " 3", " )", " or", " runs", " =", " 4"};
        StringBuilder told = new StringBuilder();
        for (int k = 0; k < rule.length; k++) {
            Check.houseDue(told + " ?", -100 - told.length() - 1);
            Check.houseDue(told.toString(), k == 11 ? 0 : -100 - told.length());
            told.append(rule[k]);
        }
        Check.houseDue(told.toString(), 0);
    }

    private static void grammar() {
        Sentence.says("STORY: the WORD nothing | light by INT | CLAUSE { and CLAUSE } (4 at most; a fifth's and can't stand).");
        Check.storyDue("nothing nothing", -108);
        Check.storyDue("nothing and part 1 by 1", -108);
        Check.storyDue("light 5", -106);
        Check.storyDue("light by 5 from 1", -111);
        Check.storyDue("light by 5 and light by 5", -111);
        Check.storyDue("part 1 by 1 and nothing", -116);
        Check.storyDue("part 1 by 1 and light by 5", -116);
        Check.storyDue("part 1 by 1 part 2 by 2", -112);
        Check.storyDue("and part 1 by 1", -100);
        String four = "part 1 by 1 and part 2 by 2 and part 3 by 3 and part 4 by 4";
        Check.storyDue(four, 0);
        Check.storyDue(four + " from 9", 0);
        Check.storyDue(four + " and", -160);
        Check.storyDue(four + " from 9 and", -167);
        Check.storyDue(four + " and part 5 by 5", -160);
        Check.storyDue(four + " or", -160);
        LoosePlug x = new LoosePlug();
        for (int i = 0; i < 5; i++) {
            x.part(0, 1, 1, 1, 1);
        }
        Check.story(x, four, 1);
        Check.due("all four count", x.gives(0, 0, 0), 10);
        Check.story(x, "part 1 by 1 and part 2 by 2 and part 3 by 3", 1);
        Check.story(x, "part 1 by 1 and part 2 by 2", 1);
        Check.story(x, "part 1 by 1", 1);
        Check.due("three, where there were four once", x.gives(1, 0, 0), 6);
        Check.due("two", x.gives(2, 0, 0), 3);
        Check.due("one", x.gives(3, 0, 0), 1);
        Sentence.says("CLAUSE: part NUMBER by INT [from NUMBER].");
        Check.storyDue("part 1 by 2 from 3", 0);
        Check.storyDue("part by 2", -105);
        Check.storyDue("part - 1 by 2", -105);
        Check.storyDue("part 1 2", -107);
        Check.storyDue("part 1 from 3 by 2", -107);
        Check.storyDue("part 1 by from 3", -110);
        Check.storyDue("part 1 by 2 from", -116);
        Check.storyDue("part 1 by 2 from -3", -117);
        Check.storyDue("from 3 part 1 by 2", -100);
        Sentence.says("INT: NUMBER or - NUMBER.");
        Check.storyDue("light by -0", 0);
        Check.storyDue("light by +5", -109);
        Check.storyDue("light by - -5", -111);
        Check.storyDue("light by -", -110);
        Check.storyDue("part 1 by -", -111);
        Check.storyDue("part 1 by --1", -111);
        Sentence.says("(What stands in [ ] may stand once.)");
        Check.storyDue("part 1 by 2 from 3 from 4", -119);
        Check.storyDue("part 1 by 2 from 3 from", -119);
        Check.storyDue("part 1 by 2 from 3 and part 1 by 2 from 3", 0);

        Sentence.says("STORIES 0 to 7, each with a WEIGHT (1 to 99).");
        LoosePlug y = new LoosePlug();
        for (int s = 0; s < 8; s++) {
            Check.due("not yet", y.miss(s), BAD);
            Check.due("story", Check.story(y, "light by " + s, s == 0 ? 1 : s == 7 ? 99 : 10), s);
            Check.due("what it gives", y.gives(s, 0, 0), s);
        }
        Check.due("the least weight of 160", y.odds(0, 1), 160);
        Check.due("the greatest weight", y.odds(7, 0), 99);
        Check.due("a ninth", Check.story(y, "nothing", 1), FULL);
        Check.due("eight", y.many(2), 8);
    }

    private static void whatAStoryGives() {
        Sentence.says("It GIVES for a WAY on a day: nothing 0; light its INT;");
        LoosePlug x = StoryTest.threeParts();
        Check.story(x, "nothing", 1);
        Check.story(x, "light by 9999", 1);
        Check.story(x, "light by -9999", 1);
        for (int way = 0; way < 2; way++) {
            Check.due("nothing", x.gives(0, way, 0), 0);
            Check.due("nothing, last day", x.gives(0, way, 999), 0);
            Check.due("light", x.gives(1, way, 0), 9999);
            Check.due("light, last day", x.gives(1, way, 999), 9999);
            Check.due("light below 0", x.gives(2, way, 0), -9999);
        }
        Sentence.says("else the sum of the INTS of CLAUSES whose PART is in that WAY (a NUMBER that is no PART counts nothing)");
        Check.story(x, "part 0 by 1 and part 1 by 20 and part 2 by 300 and part 3 by 4000", 1);
        Check.story(x, "part 2 by 5 and part 2 by 6 and part 02 by -20 and part 9999 by 7", 1);
        Check.due("way 0", x.gives(3, 0, 0), 301);
        Check.due("way 1", x.gives(3, 1, 0), 320);
        Check.due("one part thrice", x.gives(4, 0, 0), -9);
        x.part(0, 2, 1, 1, 1);
        Check.due("now that there is a part 3", x.gives(3, 1, 0), 4320);
        Check.due("which is not in way 0", x.gives(3, 0, 0), 301);
        Check.story(x, "part 3 by 9999 and part 3 by 9999 and part 3 by 9999 and part 3 by 9999", 1);
        Check.due("the greatest sum", x.gives(5, 1, 0), 39996);
        Sentence.says("and whose from is the day or ahead of it (0 without).");
        Check.story(x, "part 2 by 1 from 5 and part 2 by 20 from 6 and part 2 by 300 from 999 and part 2 by 4000 from 1000", 1);
        Check.story(x, "part 2 by 1 from 0 and part 2 by 20", 1);
        int[] days = {4, 5, 6, 998, 999};
        int[] due = {0, 1, 21, 21, 321};
        for (int k = 0; k < days.length; k++) {
            Check.due("day " + days[k], x.gives(6, 0, days[k]), due[k]);
        }
        Check.due("from 0 and without", x.gives(7, 0, 0), 21);
    }

    private static void whatATrialWouldFind() {
        Sentence.says("A TRIAL of a PART on a day WOULD FIND by a STORY: the sum of INTS of CLAUSES of that PART with from "
                + "so; of others 0.");
        LoosePlug x = StoryTest.threeParts();
        Check.story(x, "nothing", 1);
        Check.story(x, "light by 9", 1);
        Check.story(x, "part 1 by 20 from 2 and part 1 by -3 and part 0 by 8 and part 1 by 500 from 3", 1);
        Check.story(x, "part 3 by 6", 1);
        for (int i = 0; i < 3; i++) {
            Check.due("nothing", x.finds(0, i), 0);
            Check.due("light", x.finds(1, i), 0);
            Check.due("a part that is none", x.finds(3, i), 0);
        }
        Check.due("its own clause", x.finds(2, 0), 8);
        Check.due("no clause of it", x.finds(2, 2), 0);
        int[] due = {-3, -3, 17, 517, 517};
        for (int day = 0; day < due.length; day++) {
            Check.due("on day " + day, x.finds(2, 1), due[day]);
            x.later(1);
        }
    }

    private static void missAndLikely() {
        Sentence.says("MISS: over all RUNS the sum of how far SOON is from what the STORY GIVES for its WAY and day.");
        LoosePlug x = StoryTest.threeParts();
        x.later(10);
        Check.story(x, "nothing", 1);
        Check.story(x, "part 2 by 10 from 5 and part 0 by 100", 1);
        Check.due("without runs", x.miss(0), 0);
        x.older(4, 1, 3);
        Check.due("the day ahead of from", x.miss(1), 3);
        x.older(5, 1, 3);
        Check.due("from that day", x.miss(1), 3 + 7);
        x.older(9, 0, 130);
        Check.due("the other way, above", x.miss(1), 3 + 7 + 20);
        x.older(9, 0, -130);
        Check.due("below", x.miss(1), 3 + 7 + 20 + 240);
        Check.due("of nothing", x.miss(0), 3 + 3 + 130 + 130);
        for (int r = 4; r < 40; r++) {
            x.older(0, 1, -9999);
        }
        Check.due("over all forty", x.miss(0), 266 + 36 * 9999);
        Sentence.says("LIKELY: the STORY with the least MISS, of several the first.");
        LoosePlug y = new LoosePlug();
        Check.story(y, "light by 12", 1);
        Check.story(y, "light by 4", 1);
        Check.story(y, "light by 3", 1);
        Check.due("all alike", y.likely(), 0);
        y.older(0, 0, 6);
        Check.due("the least", y.likely(), 1);
        Check.story(y, "light by 8", 99);
        Check.due("of several the first", y.likely(), 1);
        Check.story(y, "light by 7", 1);
        Check.due("a lesser one", y.likely(), 4);
    }

    private static void oddsDue(LoosePlug x, String what, long worth, long other) {
        long a = worth + other;
        long b = worth;
        while (b != 0) {
            long rest = a % b;
            a = b;
            b = rest;
        }
        Check.due(what + ", above", x.odds(0, 0), worth / a);
        Check.due(what + ", below", x.odds(0, 1), (worth + other) / a);
    }

    private static void odds() {
        Sentence.says("ODDS: its WEIGHT times, for each of the last 12 RUNS by numbers, 8 if SOON is 2 or less from what it GIVES, "
                + "4 if 10 or less, 2 if 40 or less, else 1; by the sum of that over all STORIES.");
        int[] far = {0, 2, 3, 10, 11, 40, 41, 9999};
        int[] worth = {8, 8, 4, 4, 2, 2, 1, 1};
        for (int k = 0; k < far.length; k++) {
            LoosePlug x = new LoosePlug();
            Check.story(x, "light by 100", 7);
            Check.story(x, "part 1 by 1", 13);
            oddsDue(x, "without runs", 7, 13);
            x.older(0, 0, far[k] == 9999 ? 9999 : 100 + far[k]);
            oddsDue(x, far[k] + " above", 7 * worth[k], 13);
            x.older(0, 1, 100 - (far[k] == 9999 ? 10099 : far[k]));
            oddsDue(x, far[k] + " below", 7 * worth[k] * worth[k], 13);
        }
        LoosePlug y = new LoosePlug();
        Check.story(y, "light by 500", 1);
        Check.story(y, "light by 3000", 1);
        y.later(5);
        y.older(5, 0, 500);
        for (int r = 1; r < 12; r++) {
            y.older(0, 0, 7000);
        }
        oddsDue(y, "the first of twelve", 8, 1);
        y.older(0, 0, 7000);
        oddsDue(y, "the first of thirteen", 1, 1);
        LoosePlug z = new LoosePlug();
        Check.story(z, "nothing", 97);
        for (int s = 1; s < 8; s++) {
            Check.story(z, "light by 9999", 99);
        }
        for (int r = 0; r < 40; r++) {
            z.older(0, 0, 0);
        }
        oddsDue(z, "the greatest", 97L << 36, 7 * 99);
        Check.due("one of seven, above", z.odds(1, 0), 99);
        Check.due("one of seven, below", z.odds(1, 1), (97L << 36) + 7 * 99);
    }

    private static void partsThatPart() {
        Sentence.says("A PART PARTS two STORIES on THE DAY, if a TRIAL of it WOULD FIND unlike numbers by them.");
        LoosePlug x = StoryTest.threeParts();
        Check.story(x, "part 0 by 5", 1);
        Check.story(x, "part 0 by 5 from 2", 1);
        Check.story(x, "light by 5", 1);
        Check.due("unlike on day 0", x.next(3, 0), 0);
        Check.due("light is found by no trial", x.next(6, 0), NONE);
        Check.due("but by the first story", x.next(5, 0), 0);
        x.later(1);
        Check.due("unlike on day 1", x.next(3, 1), 1);
        x.later(1);
        Check.due("alike on day 2", x.next(3, 0), NONE);
        Check.due("and the other two unlike", x.next(6, 0), 0);
        Check.story(x, "part 3 by 5", 1);
        Check.due("a number that is no part parts nothing", x.next(12, 0), NONE);
        Check.due("nor need it be parted", x.least(12, 0), 0);
        Check.due("for no hours", x.least(12, 1), 0);
        x.part(0, 1, 1, 1, 9);
        Check.due("till it is one", x.next(12, 0), 3);
        Check.due("and for its hours", x.least(12, 1), 9);

        Sentence.says("NEXT of a set of STORIES: the PART that PARTS the most twos of them; of several that with the fewest HOURS, "
                + "then the least number; none if none PARTS any.");
        LoosePlug y = StoryTest.threeParts();
        Check.story(y, "part 0 by 1", 1);
        Check.story(y, "part 0 by 2 and part 1 by 1", 1);
        Check.story(y, "part 0 by 3 and part 2 by 1", 1);
        Check.due("the most twos, for more hours", y.next(7, 0), 0);
        Check.due("three twos", y.next(7, 1), 3);
        Check.due("of several the fewest hours", y.next(3, 0), 1);
        Check.due("of these the least number", y.next(6, 0), 1);
        Check.due("the other one of both", y.next(5, 0), 2);
        Check.due("one story", y.next(4, 0), NONE);
        Check.due("no story", y.next(0, 0), NONE);
        Check.due("no story, how many", y.next(0, 1), NONE);
        for (int i = 3; i < 10; i++) {
            y.part(0, 1, 1, 1, i == 9 ? 1 : 2);
        }
        for (int s = 3; s < 8; s++) {
            Check.story(y, "part 9 by " + s + " and part 8 by " + s, 1);
        }
        Check.due("the last part, for fewer hours", y.next(255, 0), 9);
        Check.due("all twos but those of the first three", y.next(255, 1), 25);
        LoosePlug one = new LoosePlug();
        one.part(0, 1, 1, 1, 1);
        for (int s = 0; s < 8; s++) {
            Check.story(one, "part 0 by " + s, 1);
        }
        Check.due("one part, all twos", one.next(255, 1), 28);
        Check.due("one part, the last two", one.next(192, 0), 0);
    }

    private static void leastSets() {
        Sentence.says("LEAST: the set of PARTS with the fewest HOURS together, so that each two of the STORIES that some PART PARTS "
                + "are PARTED by one in the set; of several the least set (as a number).");
        LoosePlug x = new LoosePlug();
        int[] hours = {5, 2, 2, 1, 60};
        for (int h : hours) {
            x.part(0, 1, 1, 1, h);
        }
        Check.story(x, "nothing", 1);
        Check.story(x, "part 0 by 1 and part 1 by 1", 1);
        Check.story(x, "part 0 by 2 and part 2 by 1", 1);
        Check.due("two for 4 hours, not one for 5", x.least(7, 0), 6);
        Check.due("4 hours", x.least(7, 1), 4);
        LoosePlug y = new LoosePlug();
        int[] same = {4, 2, 2};
        for (int h : same) {
            y.part(0, 1, 1, 1, h);
        }
        Check.story(y, "nothing", 1);
        Check.story(y, "part 0 by 1 and part 1 by 1", 1);
        Check.story(y, "part 0 by 2 and part 2 by 1", 1);
        Check.due("of several the least set", y.least(7, 0), 1);
        Check.due("4 hours either way", y.least(7, 1), 4);
        Check.story(x, "light by 7", 1);
        Check.due("two that none parts", x.least(9, 0), 0);
        Check.due("no hours", x.least(9, 1), 0);
        Check.due("beside others", x.least(15, 0), 6);
        Check.story(x, "part 4 by 1", 1);
        Check.due("the only one, for 60", x.least(17, 0), 16);
        Check.due("60 hours", x.least(17, 1), 60);
        Check.due("one story", x.least(16, 0), 0);
        LoosePlug z = new LoosePlug();
        for (int i = 0; i < 10; i++) {
            z.part(0, 1, 1, 1, 60);
        }
        for (int s = 0; s < 8; s++) {
            Check.story(z, "part " + (s + 2) + " by 1", 1);
        }
        Check.due("the least seven of eight", z.least(255, 0), 0x1fc);
        Check.due("for 420", z.least(255, 1), 420);
    }

    private static void promises12and13() {
        Sentence.says("n bytes (1 to 8) come to THE TAPE, the lowest of eight first: how many it has. BAD; FULL: more than 200.");
        LoosePlug x = new LoosePlug();
        Check.due("the lowest byte alone", x.feed(0x2020202020202020L & ~255L | 'n', 1), 1);
        Check.due("eight, the lowest first", x.feed(0x2020676e6968746fL, 8), 9);
        Check.due("nothing", x.story(1), 0);
        Check.due("a byte above 127 in the highest place", x.feed(0xff20202020202020L, 8), 8);
        Check.due("is at place 7", x.story(1), -107);
        int[] bad = {0, 9, -1, LEAST, MOST};
        for (int n : bad) {
            Refused.always("feed of " + n, BAD, p -> p.feed(-1L, n));
        }
        for (int n = 1; n <= 8; n++) {
            int bytes = n;
            Refused.in(Refused.World.FULL, "feed of " + n, FULL, p -> p.feed(-1L, bytes));
            LoosePlug y = new LoosePlug();
            Check.feed(y, " ".repeat(200 - n));
            Check.due("one more than there is room for", n == 8 ? FULL : y.feed(-1L, n + 1), FULL);
            Check.due("as many as there is room for", y.feed(-1L, n), 200);
        }

        Sentence.says("THE TAPE is a STORY: its number. BAD: weight; FULL (THE TAPE stays in both); -100 less THE FAULT.");
        int[] weights = {0, 100, -1, LEAST, MOST};
        for (int w : weights) {
            Refused.always("story(" + w + ")", BAD, p -> p.story(w));
        }
        Refused.in(Refused.World.FULL, "a ninth story", FULL, p -> p.story(1));
        Refused.in(Refused.World.FULL, "a ninth story, of the greatest weight", FULL, p -> p.story(99));
        Refused.butTape(Refused.World.NEW, "story of blanks", -105, p -> {
            Check.feed(p, "     ");
            return p.story(1);
        });
        Refused.butTape(Refused.World.MIDDLE, "story with a word too many", -114, p -> {
            Check.feed(p, "   from");
            return p.story(99);
        });
        LoosePlug z = Refused.make(Refused.World.MIDDLE);
        Check.due("the tape as it stood", z.story(99), 3);
    }

    private static void promises14to17() {
        Sentence.says("What a STORY GIVES. NO: no such STORY, WAY, day (0 to 999).");
        LoosePlug x = Refused.make(Refused.World.MIDDLE);
        Check.due("day 0", x.gives(1, 0, 0), 55);
        Check.due("day 999", x.gives(1, 1, 999), 55);
        Check.due("the last story", x.gives(2, 1, 3), 56);
        for (int day : NO_DAYS) {
            Refused.always("gives on day " + day, NO, p -> p.gives(0, 0, day));
        }
        for (int way : NO_WAYS) {
            Refused.always("gives for way " + way, NO, p -> p.gives(0, way, 0));
        }
        for (int s : NO_STORIES) {
            Refused.always("gives of story " + s, NO, p -> p.gives(s, 0, 0));
        }
        Refused.in(Refused.World.MIDDLE, "gives of a story that isn't yet", NO, p -> p.gives(3, 0, 0));

        Sentence.says("What a TRIAL of a PART on THE DAY WOULD FIND by a STORY. NO.");
        Check.due("the last part, below 0", x.finds(2, 4), -4);
        Check.due("no such part", x.finds(2, 5), NO);
        int[] parts = {-1, 10, LEAST, MOST};
        for (int i : parts) {
            Refused.always("finds of part " + i, NO, p -> p.finds(0, i));
        }
        for (int s : NO_STORIES) {
            Refused.always("finds of story " + s, NO, p -> p.finds(s, 0));
        }
        Refused.in(Refused.World.MIDDLE, "finds of a story that isn't yet", NO, p -> p.finds(3, 0));
        Refused.in(Refused.World.MIDDLE, "finds of a part that isn't yet", NO, p -> p.finds(0, 5));

        Sentence.says("MISS. BAD.");
        Check.due("the last story", x.miss(2) >= 0 ? 1 : 0, 1);
        for (int s : NO_STORIES) {
            Refused.always("miss of story " + s, BAD, p -> p.miss(s));
        }
        Refused.in(Refused.World.MIDDLE, "miss of a story that isn't yet", BAD, p -> p.miss(3));

        Sentence.says("LIKELY. NONE: there is no STORY.");
        Refused.in(Refused.World.NEW, "likely", NONE, LoosePlug::likely);
        LoosePlug y = new LoosePlug();
        Check.due("a fault is no story", Check.story(y, "nothing!", 1), -107);
        Check.due("none", y.likely(), NONE);
        Check.due("one", Check.story(y, "light by 9999", 1), 0);
        Check.due("the only one", y.likely(), 0);
    }

    private static void promises18to21() {
        Sentence.says("ODDS, a part of the fraction. BAD.");
        LoosePlug x = new LoosePlug();
        Check.story(x, "nothing", 4);
        Check.due("alone, above", x.odds(0, 0), 1);
        Check.due("alone, below", x.odds(0, 1), 1);
        Check.story(x, "nothing", 6);
        Check.due("4 by 10, above", x.odds(0, 0), 2);
        Check.due("4 by 10, below", x.odds(0, 1), 5);
        int[] others = {-1, 2, LEAST, MOST};
        for (int part : others) {
            Refused.always("odds part " + part, BAD, p -> p.odds(0, part));
        }
        for (int s : NO_STORIES) {
            Refused.always("odds of story " + s, BAD, p -> p.odds(s, 0));
        }
        Refused.in(Refused.World.MIDDLE, "odds of a story that isn't yet", BAD, p -> p.odds(3, 1));

        Sentence.says("WAYS (as bits) in which two STORIES GIVE the same on a day. BAD.");
        LoosePlug y = StoryTest.threeParts();
        Check.story(y, "part 0 by 5 from 3", 1);
        Check.story(y, "part 1 by 5 from 999", 1);
        Check.story(y, "light by 5", 1);
        Check.due("in both", y.same(0, 1, 2), 3);
        Check.due("in way 1 alone", y.same(0, 1, 3), 2);
        Check.due("in way 0 alone", y.same(0, 2, 3), 1);
        Check.due("in none", y.same(0, 1, 999), 0);
        Check.due("the other way round", y.same(1, 0, 998), 2);
        Check.due("one with itself", y.same(1, 1, 999), 3);
        for (int day : NO_DAYS) {
            Refused.always("same on day " + day, BAD, p -> p.same(0, 0, day));
        }
        for (int s : NO_STORIES) {
            Refused.always("same of story " + s, BAD, p -> p.same(s, 0, 0));
            Refused.always("same with story " + s, BAD, p -> p.same(0, s, 0));
        }
        Refused.in(Refused.World.MIDDLE, "same of a story that isn't yet", BAD, p -> p.same(3, 0, 0));
        Refused.in(Refused.World.MIDDLE, "same with a story that isn't yet", BAD, p -> p.same(0, 3, 0));

        Sentence.says("NEXT of a set of STORIES: what = 0 the PART, 1 how many twos it PARTS. BAD: others than STORIES in "
                + "the set, what; NONE.");
        Check.due("the part", y.next(7, 0), NONE);
        y.later(3);
        Check.due("the part", y.next(7, 0), 0);
        Check.due("how many", y.next(7, 1), 2);
        setRefused("next", (p, set) -> p.next(set, 0));
        whatRefused("next", (p, what) -> p.next(0, what));
        Refused.always("next of no story", NONE, p -> p.next(0, 0));
        Refused.in(Refused.World.MIDDLE, "next of one story, how many", NONE, p -> p.next(4, 1));
        Refused.in(Refused.World.MIDDLE, "next of two that none parts", NONE, p -> p.next(3, 0));

        Sentence.says("LEAST of a set of STORIES: what = 0 the set, 1 HOURS. BAD likewise.");
        Check.due("the set", y.least(7, 0), 1);
        Check.due("hours", y.least(7, 1), 5);
        setRefused("least", (p, set) -> p.least(set, 1));
        whatRefused("least", (p, what) -> p.least(0, what));
    }

    interface AskWith {
        long of(LoosePlug x, int v);
    }

    private static void setRefused(String call, AskWith ask) {
        int[] sets = {-1, 256, 511, LEAST, MOST, 1 << 8, 1 << 30};
        for (int set : sets) {
            Refused.always(call + " of the set " + set, BAD, p -> ask.of(p, set));
        }
        Refused.in(Refused.World.NEW, call + " of story 0", BAD, p -> ask.of(p, 1));
        Refused.in(Refused.World.MIDDLE, call + " of story 3", BAD, p -> ask.of(p, 8));
        Refused.in(Refused.World.MIDDLE, call + " of stories 0 and 3", BAD, p -> ask.of(p, 9));
    }

    private static void whatRefused(String call, AskWith ask) {
        int[] whats = {-1, 2, LEAST, MOST};
        for (int what : whats) {
            Refused.always(call + " what " + what, BAD, p -> ask.of(p, what));
        }
    }
}
