/** Promises 44 and 45: worlds kept. */
final class EdgesOfKept {
    private static final int NONE = -3;

    private EdgesOfKept() {
    }

    static void test() {
        whatIsKept();
        whatIsNotKept();
        whatComesBack();
    }

    private static void whatIsKept() {
        Sentence.says("All but THE TAPE, ROWS, SHEETS, SHELVES, THE TRACE is kept: 1.");
        LoosePlug x = KeptTest.world();
        Check.due("keep", x.keep(), 1);
        KeptTest.worldDue(x);
        KeptTest.spoil(x);
        Check.due("back", x.back(), 4);
        KeptTest.worldDue(x);
        LoosePlug empty = new LoosePlug();
        Check.due("an empty world", empty.keep(), 1);
        KeptTest.spoil(empty);
        Check.due("back to it", empty.back(), 0);
        for (int what = 0; what < 4; what++) {
            Check.due("none of " + what, empty.many(what), 0);
        }
        LoosePlug full = Refused.make(Refused.World.FULL);
        full.keep();
        Check.due("a full world", full.back(), 999);
        Check.due("is full of parts", full.part(0, 1, 1, 1, 1), -2);
        Check.due("is full of runs", full.run(0), -2);
        Check.due("is full of stories", full.story(1), -2);
        Check.due("is full of houses", full.house(), -2);
        Check.due("has the last run", full.ran(39, 2), 7 * 39 - 100);
        Check.due("has the last part", full.of(9, 2), 90);
        Check.due("has the last story", full.gives(7, 0, 0) + full.gives(7, 1, 0), 21);
        Check.due("has the last house", full.holds(7, 5), 1);
        Check.due("whose rule is its own", full.holds(7, 4), 0);
    }

    private static void whatIsNotKept() {
        LoosePlug x = KeptTest.world();
        x.prove(0);
        x.sheet(0, 2, 5);
        x.put(0, 2, 3);
        x.shelf(0, 0, 0);
        x.act(0, 3, 5);
        Check.feed(x, "ab");
        x.keep();
        Check.feed(x, "c");
        x.prove(1);
        x.alterRow(0, 2, 77);
        x.sheet(0, 1, 3);
        x.put(0, 2, 8);
        x.shelf(0, 0, 1);
        x.act(0, 2, 5);
        x.later(1);
        Check.due("back", x.back(), 4);
        Check.due("the tape", x.many(5), 3);
        Check.due("rows", x.many(4), 1);
        Check.due("a row", x.row(0, 2), 77);
        Check.due("a sheet's sort and item", x.item(0, 1, 2), 8);
        Check.due("a shelf", x.taken(0, 4), 1);
        Check.due("the trace", x.many(6), 2);
        Check.due("its body", x.trace(0), 50);
    }

    private static void whatComesBack() {
        Sentence.says("It becomes what was kept latest (which stays): THE DAY. NONE: nothing is kept.");
        Refused.in(Refused.World.NEW, "back", NONE, LoosePlug::back);
        LoosePlug x = new LoosePlug();
        x.later(3);
        Check.due("nothing is kept", x.back(), NONE);
        Check.due("and the day stays", x.many(7), 3);
        x.keep();
        x.later(4);
        x.keep();
        x.later(5);
        Check.due("the latest", x.back(), 7);
        Check.due("is THE DAY", x.many(7), 7);
        x.later(6);
        Check.due("which stays", x.back(), 7);
        Check.due("twice", x.back(), 7);
        LoosePlug y = KeptTest.world();
        y.keep();
        for (int time = 0; time < 3; time++) {
            KeptTest.spoil(y);
            Check.due("back", y.back(), 4);
            KeptTest.worldDue(y);
            y.back();
        }
        y.later(9);
        y.keep();
        KeptTest.spoil(y);
        Check.due("what was kept after a back()", y.back(), 13);
    }
}
