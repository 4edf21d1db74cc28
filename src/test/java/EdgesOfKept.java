/** Promises 44 and 45: worlds kept. */
final class EdgesOfKept {
    private static final int NONE = -3, NO = Integer.MIN_VALUE;

    private EdgesOfKept() {
    }

    static void test() {
        whatIsKept();
        whatIsNotKept();
        whatComesBack();
    }

    private static LoosePlug world() {
        LoosePlug x = new LoosePlug();
        x.part(0, 3, 100, 7, 2);
        x.part(4, 1, 50, 3, 9);
        x.later(4);
        x.fail(0, 6, 2);
        x.fail(1, 8, 5);
        x.tryout(1, true);
        x.noise(20);
        x.lots(1);
        x.older(1, 1, 33);
        Check.story(x, "part 1 by 3 from 2", 5);
        Check.house(x, "day=4");
        return x;
    }

    private static void worldDue(LoosePlug x) {
        int[] many = {2, 1, 1, 1};
        for (int what = 0; what < 4; what++) {
            Check.due("many(" + what + ")", x.many(what), many[what]);
        }
        Check.due("the day", x.many(7), 4);
        int[][] parts = {{0, 3, 100, 7, 2, 100, 0}, {4, 1, 50, 3, 9, 50, 1}};
        for (int what = 0; what < 7; what++) {
            Check.due("part 0, what " + what, x.of(0, what), parts[0][what]);
            Check.due("part 1, what " + what, x.of(1, what), parts[1][what]);
        }
        int[] run = {1, 1, 33};
        for (int what = 0; what < 3; what++) {
            Check.due("run 0, what " + what, x.ran(0, what), run[what]);
        }
        Check.due("no part 2", x.of(2, 0), NO);
        Check.due("no run 1", x.ran(1, 0), NO);
        Check.due("spent", x.fact(4), 9);
        Check.due("the story", x.gives(0, 0, 2), 3);
        Check.due("the house", x.sign(), 1);
        x.run(0);
        Check.due("off, and the first draw", x.ran(1, 2), 6 + 8);
        x.later(1);
        x.run(0);
        Check.due("from day 5 on, and the second draw", x.ran(2, 2), 6 + 8 + 7);
        Check.due("noise", x.noise(3), 20);
    }

    private static void spoil(LoosePlug x) {
        x.later(50);
        x.part(1, 1, 1, 1, 1);
        x.fail(0, -400, 0);
        x.fail(1, 99, 0);
        x.tryout(0, false);
        x.tryout(1, false);
        x.noise(2);
        x.lots(99);
        x.older(3, 0, -7);
        x.run(1);
        Check.story(x, "light by 1", 50);
        Check.house(x, "1=2");
    }

    private static void whatIsKept() {
        Sentence.says("All but THE TAPE, ROWS, SHEETS, SHELVES, THE TRACE is kept: 1.");
        LoosePlug x = world();
        Check.due("keep", x.keep(), 1);
        worldDue(x);
        spoil(x);
        Check.due("back", x.back(), 4);
        worldDue(x);
        LoosePlug empty = new LoosePlug();
        Check.due("an empty world", empty.keep(), 1);
        spoil(empty);
        Check.due("back to it", empty.back(), 0);
        for (int what = 0; what < 4; what++) {
            Check.due("none of " + what, empty.many(what), 0);
        }
        LoosePlug full = Refused.make(Refused.World.FULL);
        full.keep();
        Check.due("a full world", full.back(), 999);
        Check.due("is full of parts", full.part(0, 1, 1, 1, 1), -2);
        Check.due("is full of runs", full.run(0), -2);
        Check.due("is full of stories", full.story(1), -2);
        Check.due("is full of houses", full.house(), -2);
        Check.due("has the last run", full.ran(39, 2), 7 * 39 - 100);
        Check.due("has the last part", full.of(9, 2), 90);
        Check.due("has the last story", full.gives(7, 0, 0) + full.gives(7, 1, 0), 21);
        Check.due("has the last house", full.holds(7, 5), 1);
        Check.due("whose rule is its own", full.holds(7, 4), 0);
    }

    private static void whatIsNotKept() {
        LoosePlug x = world();
        x.prove(0);
        x.sheet(0, 2, 5);
        x.put(0, 2, 3);
        x.shelf(0, 0, 0);
        x.act(0, 3, 5);
        Check.feed(x, "ab");
        x.keep();
        Check.feed(x, "c");
        x.prove(1);
        x.alterRow(0, 2, 77);
        x.sheet(0, 1, 3);
        x.put(0, 2, 8);
        x.shelf(0, 0, 1);
        x.act(0, 2, 5);
        x.later(1);
        Check.due("back", x.back(), 4);
        Check.due("the tape", x.many(5), 3);
        Check.due("rows", x.many(4), 1);
        Check.due("a row", x.row(0, 2), 77);
        Check.due("a sheet's sort and item", x.item(0, 1, 2), 8);
        Check.due("a shelf", x.taken(0, 4), 1);
        Check.due("the trace", x.many(6), 2);
        Check.due("its body", x.trace(0), 50);
    }

    private static void whatComesBack() {
        Sentence.says("It becomes what was kept latest (which stays): THE DAY. NONE: nothing is kept.");
        Refused.in(Refused.World.NEW, "back", NONE, LoosePlug::back);
        LoosePlug x = new LoosePlug();
        x.later(3);
        Check.due("nothing is kept", x.back(), NONE);
        Check.due("and the day stays", x.many(7), 3);
        x.keep();
        x.later(4);
        x.keep();
        x.later(5);
        Check.due("the latest", x.back(), 7);
        Check.due("is THE DAY", x.many(7), 7);
        x.later(6);
        Check.due("which stays", x.back(), 7);
        Check.due("twice", x.back(), 7);
        LoosePlug y = world();
        y.keep();
        for (int time = 0; time < 3; time++) {
            spoil(y);
            Check.due("back", y.back(), 4);
            worldDue(y);
            y.back();
        }
        y.later(9);
        y.keep();
        spoil(y);
        Check.due("what was kept after a back()", y.back(), 13);
    }
}
