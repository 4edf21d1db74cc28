import java.util.ArrayList;
import java.util.EnumMap;
import java.util.EnumSet;
import java.util.List;
import java.util.Map;
import java.util.Set;

/**
 * Refused calls: what they answer, and that a world in which one was made shows all that its twin without it shows. Each
 * view of a world is taken of a world of its own, so that no object is asked more than 512 calls.
 */
final class Refused {
    interface Ask {
        long of(LoosePlug x);
    }

    enum World { NEW, MIDDLE, FULL }

    enum View { PARTS, RUNS, STORIES, SURE, HOUSES, ROWS, SHEETS, SHELVES, TRACE, TAPE, CHAIN, KEPT }

    private static final Map<World, Map<View, List<Long>>> UNTOUCHED = new EnumMap<>(World.class);

    private Refused() {
    }

    /** Refused in every world, full ones and new ones too. */
    static void always(String call, long due, Ask ask) {
        for (World world : World.values()) {
            in(world, call, due, ask);
        }
    }

    static void in(World world, String call, long due, Ask ask) {
        leaves(EnumSet.allOf(View.class), world, call, due, ask);
    }

    /** Refused as -100 less the fault: all stays but the tape, which is used up. */
    static void butTape(World world, String call, long due, Ask ask) {
        leaves(EnumSet.complementOf(EnumSet.of(View.TAPE)), world, call, due, ask);
        LoosePlug x = make(world);
        ask.of(x);
        Check.due(call + " uses the tape up", x.many(5), 0);
    }

    /** No act: all stays but the trace, of which there is none then. */
    static void butTrace(World world, String call, Ask ask) {
        leaves(EnumSet.complementOf(EnumSet.of(View.TRACE)), world, call, 0, ask);
        LoosePlug x = make(world);
        ask.of(x);
        Check.due(call + " leaves no trace", x.many(6), 0);
        Check.due(call + " leaves no body", x.trace(0), -3);
    }

    private static void leaves(Set<View> views, World world, String call, long due, Ask ask) {
        for (View view : views) {
            LoosePlug x = make(world);
            Check.due(world + ": " + call, ask.of(x), due);
            Check.holds(world + ": " + call + " leaves what is seen of " + view, see(view, x).equals(untouched(world, view)));
        }
    }

    /** The other side: a call that is not refused, and what it changes is seen. */
    static void notRefused(World world, String call, Ask ask) {
        boolean seen = false;
        for (View view : View.values()) {
            LoosePlug x = make(world);
            Check.holds(world + ": " + call + " is not refused", ask.of(x) >= 0);
            seen |= !see(view, x).equals(untouched(world, view));
        }
        Check.holds(world + ": what " + call + " changes is seen", seen);
    }

    private static List<Long> untouched(World world, View view) {
        return UNTOUCHED.computeIfAbsent(world, w -> new EnumMap<>(View.class))
                .computeIfAbsent(view, v -> see(v, make(world)));
    }

    // ---- worlds

    static LoosePlug make(World world) {
        LoosePlug x = new LoosePlug();
        if (world != World.NEW) {
            some(x);
        }
        if (world == World.FULL) {
            fill(x);
        }
        return x;
    }

    /** Something of everything; what is kept is not what is. */
    private static void some(LoosePlug x) {
        x.part(0, 1, 100, 5, 3);
        x.part(4, 3, 300, 60, 10);
        x.part(3, 2, 200, 20, 5);
        x.part(5, 1, 40, 9, 2);
        x.later(40);
        x.fail(0, 11, 41);
        x.fail(1, 60, 3);
        x.fail(2, -7, 2);
        x.tryout(1, true);
        x.tryout(2, false);
        x.noise(6);
        x.lots(77);
        x.run(0);
        x.run(1);
        x.older(3, 0, 58);
        x.older(31, 1, -12);
        Check.story(x, "nothing", 9);
        Check.story(x, "light by 55", 4);
        Check.house(x, "signed>0");
        Check.house(x, "day>9");
        x.keep();
        x.fail(3, -30, 5);
        x.part(6, 3, 10, 0, 1);
        x.run(0);
        Check.story(x, "part 1 by 60 from 3 and part 4 by -4", 7);
        Check.house(x, "not tried=1");
        x.prove(0);
        x.alterRow(1, 2, 5);
        for (int sheet = 0; sheet < 3; sheet++) {
            x.sheet(sheet, sheet, 3);
            x.put(sheet, 2, -5 - sheet);
        }
        x.shelf(0, 0, 4);
        x.shelf(1, 1, 0);
        x.shelf(3, 0, 1);
        x.act(0, 3, 5);
        Check.feed(x, "light by 7 ");
    }

    private static void fill(LoosePlug x) {
        for (int i = x.many(0); i < 10; i++) {
            x.part(i % 7, 1 + i % 3, 10 * i, i, i);
        }
        while (x.many(7) <= 900) {
            x.later(99);
        }
        x.later(999 - x.many(7));
        for (int r = x.many(1); r < 40; r++) {
            x.older(25 * r, r % 2, 7 * r - 100);
        }
        x.feed(0, 1);
        x.story(1);
        for (int s = x.many(2); s < 8; s++) {
            Check.story(x, "part " + s + " by " + 3 * s, s);
        }
        for (int h = x.many(3); h < 8; h++) {
            Check.house(x, "signed>" + (h - 3));
        }
        for (int sheet = 0; sheet < 4; sheet++) {
            x.sheet(sheet, sheet, 40);
            x.put(sheet, 39, 70000 + sheet);
        }
        x.shelf(0, 0, 3);
        x.shelf(1, 1, 1);
        x.shelf(2, 0, 6);
        x.shelf(3, 1, 3);
        x.prove(1);
        x.act(2, 3, 9);
        Check.feed(x, "light by 7" + " ".repeat(190));
    }

    // ---- views

    private static List<Long> see(View view, LoosePlug x) {
        List<Long> seen = new ArrayList<>();
        switch (view) {
            case PARTS: seeParts(x, seen); break;
            case RUNS: seeRuns(x, seen); break;
            case STORIES: seeStories(x, seen); break;
            case SURE: seeSure(x, seen); break;
            case HOUSES: seeHouses(x, seen); break;
            case ROWS: seeRows(x, seen); break;
            case SHEETS: seeSheets(x, seen); break;
            case SHELVES: seeShelves(x, seen); break;
            case TRACE: seeTrace(x, seen); break;
            case TAPE: seeTape(x, seen); break;
            case CHAIN: seeChain(x, seen); break;
            default: seeKept(x, seen); break;
        }
        return seen;
    }

    private static void seeParts(LoosePlug x, List<Long> seen) {
        seen.add((long) x.many(0));
        seen.add((long) x.many(7));
        for (int i = 0; i < 10; i++) {
            for (int what = 0; what < 7; what++) {
                seen.add((long) x.of(i, what));
            }
        }
    }

    private static void seeRuns(LoosePlug x, List<Long> seen) {
        seen.add((long) x.many(1));
        for (int r = 0; r < 40; r++) {
            for (int what = 0; what < 3; what++) {
                seen.add((long) x.ran(r, what));
            }
        }
    }

    private static void seeStories(LoosePlug x, List<Long> seen) {
        int all = (1 << x.many(2)) - 1;
        for (int what = 0; what < 2; what++) {
            seen.add((long) x.next(all, what));
            seen.add((long) x.least(all, what));
        }
        seen.add((long) x.likely());
        for (int s = 0; s < 8; s++) {
            seen.add((long) x.miss(s));
            seen.add(x.odds(s, 0));
            seen.add(x.odds(s, 1));
            seen.add((long) x.same(s, 0, 40));
            for (int i = 0; i < 10; i++) {
                seen.add((long) x.gives(s, i % 2, i));
                seen.add((long) x.finds(s, i));
            }
        }
    }

    private static void seeSure(LoosePlug x, List<Long> seen) {
        for (int way = 0; way < 2; way++) {
            seen.add((long) x.span(way, 0));
            seen.add((long) x.span(way, 1));
            seen.add((long) x.sure(way));
            seen.add((long) x.could(way, 9));
            seen.add((long) x.fits(way, 9));
            for (int what = 0; what < 3; what++) {
                seen.add(x.jump(way, what));
            }
            for (int m = 0; m < 34; m++) {
                seen.add(x.month(m, way, 0));
                seen.add(x.month(m, way, 1));
            }
        }
    }

    private static void seeHouses(LoosePlug x, List<Long> seen) {
        seen.add((long) x.many(3));
        seen.add((long) x.sign());
        for (int which = 0; which < 7; which++) {
            seen.add((long) x.fact(which));
        }
        for (int h = 0; h < 8; h++) {
            for (int signed = 0; signed <= 8; signed++) {
                seen.add((long) x.holds(h, signed));
            }
        }
    }

    private static void seeRows(LoosePlug x, List<Long> seen) {
        seen.add((long) x.many(4));
        seen.add((long) x.judge(0));
        seen.add((long) x.judge(1));
        for (int i = 0; i < 10; i++) {
            for (int what = 0; what < 3; what++) {
                seen.add((long) x.row(i, what));
            }
        }
    }

    private static void seeSheets(LoosePlug x, List<Long> seen) {
        for (int sheet = 0; sheet < 4; sheet++) {
            for (int sort = 0; sort < 4; sort++) {
                int[] places = {0, 1, 2, 3, 39};
                for (int i : places) {
                    seen.add((long) x.item(sheet, sort, i));
                }
            }
        }
    }

    private static void seeShelves(LoosePlug x, List<Long> seen) {
        for (int shelf = 0; shelf < 4; shelf++) {
            for (int as = 0; as < 14; as++) {
                seen.add((long) x.taken(shelf, as));
            }
            for (int act = 0; act < 4; act++) {
                seen.add((long) x.act(shelf, act, 9));
                seen.add((long) x.trace(0));
            }
        }
    }

    private static void seeTrace(LoosePlug x, List<Long> seen) {
        seen.add((long) x.many(6));
        for (int i = 0; i < 30; i++) {
            seen.add((long) x.trace(i));
        }
    }

    /** A full world goes back, so that there is room for the story that is on the tape. */
    private static void seeTape(LoosePlug x, List<Long> seen) {
        seen.add((long) x.many(5));
        if (x.many(2) == 8) {
            x.back();
        }
        int told = x.story(9);
        seen.add((long) told);
        seen.add((long) x.gives(told, 0, 0));
        seen.add((long) x.many(5));
    }

    /** What the chain will do: noise, draws, and what each part takes today and later. */
    private static void seeChain(LoosePlug x, List<Long> seen) {
        seen.add((long) x.noise(20));
        for (int day = 0; day < 3; day++) {
            for (int way = 0; way < 2; way++) {
                seen.add((long) x.prove(way));
                for (int i = 0; i < 10; i++) {
                    seen.add((long) x.row(i, 1));
                }
                seen.add((long) x.run(way));
                seen.add((long) x.ran(x.many(1) - 1, 2));
            }
            seen.add((long) x.later(1 + day));
        }
    }

    private static void seeKept(LoosePlug x, List<Long> seen) {
        seen.add((long) x.back());
        seeParts(x, seen);
        seen.add((long) x.sign());
        for (int which = 0; which < 7; which++) {
            seen.add((long) x.fact(which));
        }
        for (int s = 0; s < 4; s++) {
            seen.add((long) x.gives(s, 0, 40));
        }
        for (int r = 0; r < 6; r++) {
            seen.add((long) x.ran(r, 2));
        }
        seeChain(x, seen);
    }
}
