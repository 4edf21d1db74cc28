/** Promises 44 and 45: worlds kept. */
final class KeptTest {
    private static final int NONE = -3, NO = Integer.MIN_VALUE;

    public static void main(String[] args) {
        everything();
        notKept();
        latest();
        shelves();
        Check.end();
    }

    static LoosePlug world() {
        LoosePlug x = new LoosePlug();
        x.part(0, 3, 100, 7, 2);
        x.part(4, 1, 50, 3, 9);
        x.later(4);
        x.fail(0, 6, 2);
        x.fail(1, 8, 5);
        x.tryout(1, true);
        x.noise(20);
        x.lots(1);
        x.older(1, 1, 33);
        Check.story(x, "part 1 by 3 from 2", 5);
        Check.house(x, "day=4");
        return x;
    }

    static void worldDue(LoosePlug x) {
        int[] many = {2, 1, 1, 1};
        for (int what = 0; what < 4; what++) {
            Check.due("many(" + what + ")", x.many(what), many[what]);
        }
        Check.due("the day", x.many(7), 4);
        int[][] parts = {{0, 3, 100, 7, 2, 100, 0}, {4, 1, 50, 3, 9, 50, 1}};
        for (int what = 0; what < 7; what++) {
            Check.due("part 0, what " + what, x.of(0, what), parts[0][what]);
            Check.due("part 1, what " + what, x.of(1, what), parts[1][what]);
        }
        int[] run = {1, 1, 33};
        for (int what = 0; what < 3; what++) {
            Check.due("run 0, what " + what, x.ran(0, what), run[what]);
        }
        Check.due("no part 2", x.of(2, 0), NO);
        Check.due("no run 1", x.ran(1, 0), NO);
        Check.due("spent", x.fact(4), 9);
        Check.due("the story", x.gives(0, 0, 2), 3);
        Check.due("the house", x.sign(), 1);
        x.run(0);
        Check.due("off, and the first draw", x.ran(1, 2), 6 + 8);
        x.later(1);
        x.run(0);
        Check.due("from day 5 on, and the second draw", x.ran(2, 2), 6 + 8 + 7);
        Check.due("noise", x.noise(3), 20);
    }

    static void spoil(LoosePlug x) {
        x.later(50);
        x.part(1, 1, 1, 1, 1);
        x.fail(0, -400, 0);
        x.fail(1, 99, 0);
        x.tryout(0, false);
        x.tryout(1, false);
        x.noise(2);
        x.lots(99);
        x.older(3, 0, -7);
        x.run(1);
        Check.story(x, "light by 1", 50);
        Check.house(x, "1=2");
    }

    private static void everything() {
        LoosePlug x = world();
        Check.due("nothing is kept", x.back(), NONE);
        Check.due("keep", x.keep(), 1);
        worldDue(x);
        spoil(x);
        Check.due("back", x.back(), 4);
        worldDue(x);
        spoil(x);
        spoil(x);
        Check.due("what was kept stays", x.back(), 4);
        worldDue(x);
        Check.due("back again", x.back(), 4);
        Check.due("full again", Check.story(x, "nothing", 1), 1);
    }

    private static void notKept() {
        LoosePlug x = world();
        x.prove(0);
        x.sheet(0, 2, 5);
        x.shelf(0, 0, 0);
        x.keep();
        x.later(1);
        Check.feed(x, "abc");
        x.prove(1);
        x.alterRow(0, 2, 77);
        x.sheet(0, 1, 3);
        x.put(0, 2, 8);
        x.shelf(0, 0, 1);
        x.act(0, 2, 5);
        Check.due("back", x.back(), 4);
        Check.due("the tape", x.many(5), 3);
        Check.due("rows", x.many(4), 1);
        Check.due("a row", x.row(0, 2), 77);
        Check.due("sheets", x.item(0, 1, 2), 8);
        Check.due("shelves", x.taken(0, 4), 1);
        Check.due("the trace", x.trace(0), 50);
    }

    private static void latest() {
        LoosePlug x = new LoosePlug();
        x.keep();
        x.later(7);
        x.part(0, 1, 1, 1, 1);
        x.keep();
        x.later(2);
        Check.due("the latest", x.back(), 7);
        Check.due("its parts", x.many(0), 1);
        LoosePlug y = new LoosePlug();
        y.later(1);
        y.part(0, 1, 1, 1, 1);
        y.keep();
        y.part(0, 1, 2, 2, 2);
        y.back();
        y.fail(0, 4, 1);
        y.keep();
        y.fail(0, 4, 0);
        y.fail(0, 4, 9);
        y.back();
        y.run(0);
        Check.due("from which day it is off", y.ran(0, 2), 4);
        y.part(0, 1, 2, 2, 2);
        y.fail(1, 8, 0);
        y.tryout(1, false);
        y.back();
        Check.due("a new part where one went", y.part(3, 2, 5, 6, 7), 1);
        Check.due("its kind", y.of(1, 0), 3);
        Check.due("not tried", y.of(1, 6), 0);
    }

    private static void shelves() {
        LoosePlug x = new LoosePlug();
        x.part(1, 1, 1, 1, 1);
        x.keep();
        x.part(2, 1, 1, 1, 1);
        x.fail(1, 9, 0);
        x.tryout(1, false);
        x.shelf(3, 0, 1);
        Check.due("it is there", x.taken(3, 2), 1);
        Check.due("it acts", x.act(3, 0, 1), 6);
        x.back();
        Check.due("no such part any more", x.taken(3, 2), -11);
        Check.due("nor as a row", x.taken(3, 10), -11);
        Check.due("it does not act", x.act(3, 0, 1), 0);
        Check.due("no trace", x.many(6), 0);
        x.part(0, 1, 5, 1, 1);
        Check.due("a part that comes later is as new", x.of(1, 5), 5);
        Check.due("and it is not off", x.fail(1, 0, 0), 5);
        Check.due("the shelf bears the number", x.taken(3, 0), 1);
        Check.due("but the kind is another", x.taken(3, 2), -13);
    }
}
