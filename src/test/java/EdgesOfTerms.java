/** The first paragraph of the terms: refusals and their order, sets, quotients, fractions. */
final class EdgesOfTerms {
    private static final int BAD = -1, FULL = -2, NONE = -3, NO = Integer.MIN_VALUE;

    private EdgesOfTerms() {
    }

    static void test() {
        refusals();
        firstNamed();
        numbersOfRefusals();
        sets();
        quotients();
        fractions();
        lastCall();
    }

    /** Every refusal is tested where its promise is; here one of each call that can change something, and its other side. */
    private static void refusals() {
        Sentence.says("Answers below 0, where not told otherwise, are refusals; such a call changes nothing");
        bothSides("part", BAD, x -> x.part(0, 4, 1, 1, 1), x -> x.part(0, 3, 1, 1, 1));
        bothSides("fail", NO, x -> x.fail(5, 1, 0), x -> x.fail(4, 1, 0));
        bothSides("later", BAD, x -> x.later(0), x -> x.later(1));
        bothSides("noise", BAD, x -> x.noise(21), x -> x.noise(20));
        bothSides("run", BAD, x -> x.run(2), x -> x.run(1));
        bothSides("older", BAD, x -> x.older(41, 0, 0), x -> x.older(40, 0, 0));
        bothSides("tryout", NO, x -> x.tryout(5, false), x -> x.tryout(4, false));
        bothSides("feed", BAD, x -> x.feed(0, 0), x -> x.feed(0, 1));
        bothSides("story", BAD, x -> x.story(0), x -> x.story(1));
        bothSides("prove", BAD, x -> x.prove(2), x -> x.prove(1));
        bothSides("alterRow", NO, x -> x.alterRow(4, 2, 99), x -> x.alterRow(1, 2, 99));
        bothSides("sheet", -14, x -> x.sheet(0, 0, -1), x -> x.sheet(0, 0, 0));
        bothSides("put", -12, x -> x.put(0, 3, 1), x -> x.put(0, 2, 1));
        bothSides("shelf", BAD, x -> x.shelf(0, 0, 5), x -> x.shelf(0, 0, 3));
        Refused.notRefused(Refused.World.MIDDLE, "lots", x -> x.lots(5));
        Refused.notRefused(Refused.World.MIDDLE, "act", x -> x.act(0, 0, 9));
        Refused.notRefused(Refused.World.MIDDLE, "keep", LoosePlug::keep);
        Refused.notRefused(Refused.World.MIDDLE, "back", LoosePlug::back);
        Refused.in(Refused.World.NEW, "back", NONE, LoosePlug::back);
        Refused.notRefused(Refused.World.NEW, "house", x -> Check.house(x, "1=1"));
        Sentence.says("(but that THE TAPE is used up by story() and house());");
        Refused.butTape(Refused.World.NEW, "a story of nothing at all", -100, x -> x.story(1));
        Refused.butTape(Refused.World.NEW, "a rule of nothing at all", -100, LoosePlug::house);
        Refused.butTape(Refused.World.MIDDLE, "a story that goes wrong", -111, x -> {
            Check.feed(x, "and");
            return x.story(1);
        });
        Refused.butTape(Refused.World.MIDDLE, "a rule that goes wrong", -100, LoosePlug::house);
    }

    private static void bothSides(String call, long due, Refused.Ask refused, Refused.Ask taken) {
        Refused.in(Refused.World.MIDDLE, call, due, refused);
        Refused.notRefused(Refused.World.MIDDLE, call, taken);
    }

    private static void firstNamed() {
        Sentence.says("of several the first named:");
        Refused.in(Refused.World.FULL, "part bad and full", BAD, x -> x.part(0, 0, 1, 1, 1));
        Refused.in(Refused.World.FULL, "later bad and full", BAD, x -> x.later(100));
        Refused.in(Refused.World.FULL, "run bad and full", BAD, x -> x.run(2));
        Refused.in(Refused.World.FULL, "older bad and full", BAD, x -> x.older(1000, 0, 0));
        Refused.in(Refused.World.FULL, "feed bad and full", BAD, x -> x.feed(0, 9));
        Refused.in(Refused.World.FULL, "story bad and full", BAD, x -> x.story(100));
        Refused.in(Refused.World.FULL, "house full and a fault", FULL, LoosePlug::house);
        Refused.in(Refused.World.NEW, "next bad and none", BAD, x -> x.next(0, 2));
        Refused.in(Refused.World.NEW, "sure none and by 0", NONE, x -> x.sure(0));
        Refused.always("sheet bad and below 0", BAD, x -> x.sheet(4, 0, -1));
        Refused.in(Refused.World.NEW, "put nothing there and outside", -11, x -> x.put(0, 40, 1));
        Refused.in(Refused.World.NEW, "item nothing there, of another sort, outside", -11, x -> x.item(0, 3, 40));
        Refused.in(Refused.World.MIDDLE, "item of another sort and outside", -13, x -> x.item(0, 3, 40));
    }

    private static void numbersOfRefusals() {
        Sentence.says("BAD (-1) there is no such thing, or a number is not as told; FULL (-2); NONE (-3); STATE (-4);");
        Check.due("BAD", LoosePlug.BAD, BAD);
        Check.due("FULL", LoosePlug.FULL, FULL);
        Check.due("NONE", LoosePlug.NONE, NONE);
        Check.due("STATE", LoosePlug.STATE, -4);
        LoosePlug x = new LoosePlug();
        Check.due("no such thing", x.miss(0), BAD);
        Check.due("a number not as told", x.many(8), BAD);
        Check.due("none", x.likely(), NONE);

        Sentence.says("and what the host refuses: -11 nothing where something is asked, -12 a place outside, -13 a thing of "
                + "another sort or kind, -14 a size below 0, -15 parted by 0.");
        Check.due("nothing there", x.put(1, 0, 0), -11);
        x.sheet(1, 2, 3);
        Check.due("outside", x.put(1, 3, 0), -12);
        Check.due("inside", x.put(1, 2, 0), 1);
        Check.due("another sort", x.item(1, 1, 2), -13);
        Check.due("this sort", x.item(1, 2, 2), 0);
        Check.due("a size below 0", x.sheet(1, 2, -1), -14);
        Check.due("a size of 0", x.sheet(1, 2, 0), 1);
        x.part(2, 1, 1, 0, 1);
        x.shelf(0, 0, 0);
        Check.due("another kind", x.taken(0, 3), -13);
        Check.due("this kind", x.taken(0, 2), 0);
        Check.due("parted by 0", x.act(0, 2, 1), -15);

        Sentence.says("Where a number told may itself be below 0, NO (-2147483648) stands for all refusals.");
        Check.due("NO", LoosePlug.NO, NO);
        LoosePlug y = new LoosePlug();
        y.part(0, 1, 1, 1, 1);
        y.older(0, 0, -1);
        y.older(0, 0, -2);
        Check.due("a SOON that is as low as BAD", y.ran(0, 2), -1);
        Check.due("a SOON that is as low as FULL", y.ran(1, 2), -2);
        Check.due("no such run", y.ran(2, 2), NO);
        Check.due("BELIEVED as low as FULL", y.fail(0, -3, 0), -2);
        Check.due("a trial that finds less", y.tryout(0, false), -3);
        Check.due("and so it is believed", y.of(0, 5), -2);
        Check.due("no such part", y.of(1, 5), NO);
        Check.due("RISE as low as BAD", y.jump(0, 1), -1);
        Check.due("no such way", y.jump(2, 1), NO);
        Check.due("a mean as low as -3", y.month(0, 0, 0), -3);
        Check.due("no run there", y.month(1, 0, 0), NO);
        Check.due("a row as low as 0", y.prove(0), 1);
        Check.due("altered to NO itself", y.alterRow(0, 1, NO), 0);
        Check.due("told as it is", y.row(0, 1), NO);
        Check.due("and it was so", y.alterRow(0, 1, -1), NO);
        Check.due("and is so no more", y.row(0, 1), -1);
    }

    private static void sets() {
        Sentence.says("Sets are told by bits.");
        LoosePlug x = new LoosePlug();
        for (int i = 0; i < 10; i++) {
            x.part(0, 1, 1, i, 1);
            Check.house(x, i < 8 ? "signed=" + i : "");
        }
        for (int i = 0; i < 10; i++) {
            Check.due("parts " + i + " and up", x.could(0, i), 1023 & -1 << i);
        }
        Check.due("eight houses", x.sign(), 255);
        for (int s = 0; s < 8; s++) {
            Check.story(x, "part " + s + " by 1", 1);
        }
        Check.due("the first and the last story", x.least(129, 0), 1);
        Check.due("the last two stories", x.least(192, 0), 64);
        Check.due("all stories", x.next(255, 1), 7);
        Check.due("one bit more", x.next(256, 1), BAD);
    }

    private static void quotients() {
        Sentence.says("Quotients are cut towards 0.");
        LoosePlug x = new LoosePlug();
        x.part(3, 1, 50, 4, 1);
        x.later(1);
        Check.due("-9 by 10", x.fail(0, -9, 0), 50);
        Check.due("-10 by 10", x.fail(0, -10, 0), 49);
        Check.due("9 by 10", x.fail(0, 9, 0), 50);
        x.older(0, 0, -1);
        x.older(0, 0, -2);
        Check.due("the mean -3 by 2", x.fact(2), -1);
        x.older(0, 0, -3);
        Check.due("the mean -6 by 3", x.fact(2), -2);
        Check.due("6 by 12", x.sure(0), 0);
        x.older(0, 0, -10);
        Check.due("16 by 16", x.sure(0), 1);
        x.shelf(0, 0, 0);
        Check.due("-3 by 4", x.act(0, 2, -3), 0);
        Check.due("-4 by 4", x.act(0, 2, -4), -1);
        Check.due("7 by 4", x.act(0, 2, 7), 1);
    }

    private static void fractions() {
        Sentence.says("A part of a fraction: 0 above the line, 1 below it, without a common divisor, below above 0 (0 is 0 by 1).");
        LoosePlug x = new LoosePlug();
        x.later(99);
        x.later(21);
        int[][] soons = {{-6, 0, 0, 0}, {5, -5, 0, 0}, {9, 0, 0, 0}, {-8, -8, -8, -8}};
        long[][] due = {{-3, 2}, {0, 1}, {9, 4}, {-8, 1}};
        for (int m = 0; m < 4; m++) {
            for (int soon : soons[m]) {
                x.older(30 * m, 0, soon);
            }
            Check.due("above, month " + m, x.month(m, 0, 0), due[m][0]);
            Check.due("below, month " + m, x.month(m, 0, 1), due[m][1]);
        }
        Check.due("a part before 0", x.month(0, 0, -1), NO);
        Check.due("a part behind 1", x.month(0, 0, 2), NO);
    }

    /** The sentence stands ahead of the terms: an object is used for at most 512 calls. */
    private static void lastCall() {
        LoosePlug x = new LoosePlug();
        for (int call = 1; call < 512; call++) {
            Check.due("call " + call, x.lots(call), 1);
        }
        Check.due("the 512th call", x.many(7), 0);
    }
}
