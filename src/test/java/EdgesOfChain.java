/** Part 1 of the terms and promises 1 to 11: parts, runs, trials. */
final class EdgesOfChain {
    private static final int BAD = -1, FULL = -2, NONE = -3, NO = Integer.MIN_VALUE;
    private static final int LEAST = Integer.MIN_VALUE, MOST = Integer.MAX_VALUE;
    private static final int DRIFTING = 3, LOOSE = 4, SHORT = 5;

    private EdgesOfChain() {
    }

    static void test() {
        theDay();
        howManyParts();
        numbersOfAPart();
        partAtFirst();
        whatAPartTakes();
        whatARunIs();
        draws();
        howManyRuns();
        trials();
        promises1to5();
        promises6to9();
        promises10and11();
    }

    private static void theDay() {
        Sentence.says("THE DAY is 0 at first, 999 at most.");
        Check.due("at first", new LoosePlug().many(7), 0);
        LoosePlug x = Check.onDay(998);
        Check.due("999", x.later(1), 999);
        Check.due("1000", x.later(1), FULL);
        Check.due("still", x.many(7), 999);
        Check.due("from 998 by 2", Check.onDay(998).later(2), FULL);
    }

    private static void howManyParts() {
        Sentence.says("PARTS 0 to 9, as they come:");
        LoosePlug x = new LoosePlug();
        for (int i = 0; i < 10; i++) {
            Check.due("not yet", x.of(i, 2), NO);
            Check.due("part", x.part(0, 1, 100 + i, 1, 1), i);
            Check.due("its paper", x.of(i, 2), 100 + i);
        }
        Check.due("an eleventh", x.part(0, 1, 1, 1, 1), FULL);
        Check.due("no part 10", x.of(10, 2), NO);
        Check.due("ten", x.many(0), 10);
    }

    private static void numbersOfAPart() {
        Sentence.says("a KIND (0 part, 1 tried, 2 taken, 3 drifting, 4 loose, 5 short, 6 other),");
        LoosePlug x = new LoosePlug();
        for (int kind = 0; kind < 7; kind++) {
            Check.due("kind " + kind, x.part(kind, 1, 1, 1, 1), kind);
            Check.due("its kind", x.of(kind, 0), kind);
        }
        numberRefused("kind", 0, -1, 7);
        Sentence.says("the WAYS it is in (bits: 1 WAY 0, 2 WAY 1; 1 to 3),");
        LoosePlug y = new LoosePlug();
        for (int ways = 1; ways < 4; ways++) {
            y.part(0, ways, 1, 1, 1);
            Check.due("its ways", y.of(ways - 1, 1), ways);
        }
        Check.due("in way 0", y.could(0, 1), 5);
        Check.due("in way 1", y.could(1, 1), 6);
        numberRefused("ways", 1, 0, 4);
        Sentence.says("PAPER (what it takes as told, 0 to 9999),");
        numberTold(2, 0, 9999);
        numberRefused("paper", 2, -1, 10000);
        Sentence.says("SPAN (by how much it may be off, 0 to 99),");
        numberTold(3, 0, 99);
        numberRefused("span", 3, -1, 100);
        Sentence.says("HOURS (what a trial costs, 1 to 60);");
        numberTold(4, 1, 60);
        numberRefused("hours", 4, 0, 61);
    }

    /** A part's numbers, as part() takes them, with the one at a place put. */
    private static int partWith(LoosePlug x, int place, int v) {
        int[] n = {0, 1, 1, 1, 1};
        n[place] = v;
        return x.part(n[0], n[1], n[2], n[3], n[4]);
    }

    private static void numberTold(int place, int least, int most) {
        LoosePlug x = new LoosePlug();
        Check.due("the least", partWith(x, place, least), 0);
        Check.due("the most", partWith(x, place, most), 1);
        Check.due("the least is told", x.of(0, place), least);
        Check.due("the most is told", x.of(1, place), most);
    }

    private static void numberRefused(String name, int place, int below, int above) {
        int[] all = {below, above, LEAST, MOST};
        for (int v : all) {
            Refused.always("part of " + name + " " + v, BAD, x -> partWith(x, place, v));
        }
    }

    private static void partAtFirst() {
        Sentence.says("BELIEVED (PAPER at first);");
        LoosePlug x = new LoosePlug();
        x.part(LOOSE, 1, 0, 9, 1);
        x.part(LOOSE, 1, 9999, 9, 1);
        Check.due("the least", x.of(0, 5), 0);
        Check.due("the most", x.of(1, 5), 9999);
        LoosePlug again = new LoosePlug();
        again.keep();
        again.part(LOOSE, 1, 70, 9, 1);
        again.fail(0, 30, 0);
        again.tryout(0, false);
        again.back();
        again.part(LOOSE, 1, 50, 9, 1);
        Check.due("where another part was once", again.of(0, 5), 50);
        Check.due("untried", again.of(0, 6), 0);
        Sentence.says("OFF (-500 to 500; 0 at first) from a day on (0 at first).");
        x.run(0);
        Check.due("not off at first", x.ran(0, 2), 0);
        again.run(0);
        Check.due("not off where another part was once", again.ran(0, 2), 0);
        Check.due("500", x.fail(0, 500, 0), 500);
        Check.due("-500", x.fail(0, -500, 0), -500);
        Refused.always("fail by 501", NO, p -> p.fail(0, 501, 0));
        Refused.always("fail by -501", NO, p -> p.fail(0, -501, 0));
        Refused.always("fail by the most", NO, p -> p.fail(0, MOST, 0));
        Refused.always("fail by the least", NO, p -> p.fail(0, LEAST, 0));
    }

    private static void whatAPartTakes() {
        Sentence.says("What a PART TAKES on a day: ahead of its day PAPER; then PAPER and OFF;");
        LoosePlug x = Check.onDay(9);
        for (int kind = 0; kind < 7; kind++) {
            x.part(kind, 1, 70, 1, 1);
            Check.due("ahead of its day, kind " + kind, x.fail(kind, 30, 10), 70);
            Check.due("on its day, kind " + kind, x.fail(kind, 30, 9), kind == DRIFTING ? 70 : 100);
            Check.due("behind its day, kind " + kind, x.fail(kind, 30, 8), kind == DRIFTING ? 73 : 100);
        }
        Check.due("less than the paper", x.fail(0, -71, 9), -1);
        x.fail(0, 5, 11);
        x.later(1);
        x.run(0);
        int others = 5 * 30 + 6;
        Check.due("the day ahead of it", x.ran(0, 2), others);
        x.later(1);
        x.run(0);
        Check.due("the day itself", x.ran(1, 2), others + 3 + 5);

        Sentence.says("a DRIFTING one PAPER and OFF times how many days since its day, by 10.");
        LoosePlug y = Check.onDay(999);
        y.part(DRIFTING, 1, 9999, 1, 1);
        Check.due("no day since", y.fail(0, 500, 999), 9999);
        Check.due("a day since", y.fail(0, 500, 998), 9999 + 50);
        Check.due("9 by 10", y.fail(0, 9, 998), 9999);
        Check.due("10 by 10", y.fail(0, 10, 998), 10000);
        Check.due("-9 by 10", y.fail(0, -9, 998), 9999);
        Check.due("-19 by 10", y.fail(0, -19, 998), 9998);
        Check.due("the furthest", y.fail(0, 500, 0), 9999 + 49950);
        Check.due("the furthest the other way", y.fail(0, -500, 0), 9999 - 49950);
    }

    private static void whatARunIs() {
        Sentence.says("A RUN in a WAY, today: SOON is the sum of TAKES today less BELIEVED over the PARTS of the WAY, and a DRAW:");
        LoosePlug x = new LoosePlug();
        x.run(0);
        Check.due("without parts", x.ran(0, 2), 0);
        for (int i = 0; i < 10; i++) {
            x.part(0, 1 + i % 3, 10, 1, 1);
            x.fail(i, 1 << i % 9, i);
        }
        // Way 0 has parts 0 2 3 5 6 8 9, way 1 has 1 2 4 5 7 8; today only those that are off from day 0 to 5 are off.
        x.later(5);
        x.run(0);
        x.run(1);
        Check.due("way 0", x.ran(1, 2), 1 + 4 + 8 + 32);
        Check.due("way 1", x.ran(2, 2), 2 + 4 + 16 + 32);
        x.tryout(5, false);
        x.run(0);
        Check.due("less what is believed", x.ran(3, 2), 1 + 4 + 8);
        x.fail(5, 0, 0);
        x.run(0);
        Check.due("below what is believed", x.ran(4, 2), 1 + 4 + 8 - 32);
        Check.due("its day", x.ran(4, 0), 5);
        x.noise(20);
        x.lots(1);
        x.run(0);
        Check.due("and a draw", x.ran(5, 2), 1 + 4 + 8 - 32 + 8);
    }

    private static void draws() {
        Sentence.says("z (an int; 1 at first) becomes z times 1103515245 and 12345 (wrapping);");
        int[] first = {8, 7, 7, -3, 3, -1};
        LoosePlug x = new LoosePlug();
        x.noise(20);
        for (int k = 0; k < first.length; k++) {
            x.run(0);
            Check.due("draw " + k + " from 1", x.ran(k, 2), first[k]);
        }
        x.lots(1);
        x.run(1);
        Check.due("from 1 again", x.ran(6, 2), 8);
        drawDue(0, 20);
        drawDue(-1, 20);
        drawDue(MOST, 20);
        drawDue(LEAST, 20);
        Sentence.says("(z >>> 16) % (2 NOISE + 1) - NOISE;");
        for (int noise = 0; noise <= 20; noise++) {
            drawDue(1, noise);
            drawDue(3, noise);
            drawDue(123456789, noise);
        }
        Sentence.says("NOISE is 0 at first.");
        LoosePlug y = new LoosePlug();
        y.run(0);
        y.run(0);
        Check.due("no noise", y.ran(0, 2), 0);
        Check.due("no noise again", y.ran(1, 2), 0);
        Check.due("what it was", y.noise(20), 0);
        y.run(0);
        Check.due("but z went on: the third draw", y.ran(2, 2), 7);
    }

    private static void drawDue(int z, int noise) {
        LoosePlug x = new LoosePlug();
        x.noise(noise);
        x.lots(z);
        long next = z;
        for (int k = 0; k < 10; k++) {
            next = next * 1103515245L + 12345L & 0xffffffffL;
            x.run(0);
            Check.due("draw " + k + " from " + z + " with " + noise, x.ran(k, 2), (next >> 16) % (2L * noise + 1) - noise);
        }
    }

    private static void howManyRuns() {
        Sentence.says("RUNS 0 to 39, as they come (OLDER ones are told): a day, a WAY, SOON.");
        LoosePlug x = Check.onDay(50);
        for (int r = 0; r < 40; r++) {
            Check.due("not yet", x.ran(r, 0), NO);
            boolean told = r % 3 == 0;
            Check.due("run", told ? x.older(50 - r, r % 2, 7 * r) : x.run(r % 2), r);
            Check.due("its day", x.ran(r, 0), told ? 50 - r : 50);
            Check.due("its way", x.ran(r, 1), r % 2);
            Check.due("its soon", x.ran(r, 2), told ? 7 * r : 0);
        }
        Check.due("a run more", x.run(0), FULL);
        Check.due("a told one more", x.older(0, 0, 0), FULL);
        Check.due("forty", x.many(1), 40);
        Check.due("no run 40", x.ran(40, 0), NO);
    }

    private static void trials() {
        Sentence.says("A TRIAL of a PART, today: by itself: BELIEVED becomes what it TAKES.");
        LoosePlug x = Check.onDay(4);
        for (int kind = 0; kind < 7; kind++) {
            x.part(kind, 1, 100, 1, 2);
            x.fail(kind, 20, 5);
            Check.due("ahead of its day", x.tryout(kind, false), 0);
        }
        x.later(2);
        for (int kind = 0; kind < 7; kind++) {
            int late = kind == DRIFTING ? 2 : 20;
            Check.due("by itself, kind " + kind, x.tryout(kind, false), late);
            Check.due("believed", x.of(kind, 5), 100 + late);
            Check.due("the paper stays", x.of(kind, 2), 100);
        }
        Sentence.says("Through the chain: likewise, but a LOOSE or SHORT one is found as it was BELIEVED.");
        for (int kind = 0; kind < 7; kind++) {
            x.fail(kind, -500, 5);
            int before = x.of(kind, 5);
            int after = kind == LOOSE || kind == SHORT ? before : kind == DRIFTING ? 50 : -400;
            Check.due("through the chain, kind " + kind, x.tryout(kind, true), after - before);
            Check.due("believed", x.of(kind, 5), after);
        }
        Sentence.says("Its HOURS are SPENT, and it is TRIED, either way.");
        LoosePlug y = new LoosePlug();
        y.part(LOOSE, 1, 1, 1, 1);
        y.part(LOOSE, 1, 1, 1, 60);
        y.part(0, 1, 1, 1, 7);
        Check.due("nothing spent", y.fact(4), 0);
        Check.due("untried", y.of(0, 6) + y.of(1, 6) + y.of(2, 6), 0);
        y.tryout(0, true);
        Check.due("through the chain", y.fact(4), 1);
        Check.due("tried", y.of(0, 6), 1);
        y.tryout(1, false);
        Check.due("by itself", y.fact(4), 61);
        Check.due("tried", y.of(1, 6), 1);
        Check.due("the third is not", y.of(2, 6), 0);
        y.tryout(1, true);
        Check.due("each time", y.fact(4), 121);
        Check.due("tried still", y.of(1, 6), 1);
    }

    private static void promises1to5() {
        Sentence.says("No PARTS; THE DAY is 0.");
        LoosePlug x = new LoosePlug();
        for (int what = 0; what < 8; what++) {
            Check.due("many(" + what + ")", x.many(what), 0);
        }
        Check.due("no part", x.of(0, 0), NO);
        Check.due("nothing kept", x.back(), NONE);

        Sentence.says("A PART: its number. BAD; FULL.");
        Check.due("the first", x.part(0, 1, 1, 1, 1), 0);
        Check.due("a bad one", x.part(0, 0, 1, 1, 1), BAD);
        Check.due("the second", x.part(0, 1, 1, 1, 1), 1);
        Refused.in(Refused.World.FULL, "a part more", FULL, p -> p.part(0, 1, 1, 1, 1));

        Sentence.says("Of a PART: what = 0 KIND, 1 WAYS, 2 PAPER, 3 SPAN, 4 HOURS, 5 BELIEVED, 6 1 if it was TRIED, else 0. NO.");
        x.part(6, 3, 500, 44, 33);
        x.fail(2, -1, 0);
        x.tryout(2, false);
        int[] due = {6, 3, 500, 44, 33, 499, 1};
        for (int what = 0; what < 7; what++) {
            Check.due("of what " + what, x.of(2, what), due[what]);
        }
        Check.due("never tried", x.of(1, 6), 0);
        Refused.always("of what -1", NO, p -> p.of(0, -1));
        Refused.always("of what 7", NO, p -> p.of(0, 7));
        Refused.always("of the most", NO, p -> p.of(0, MOST));
        Refused.always("of the least", NO, p -> p.of(0, LEAST));
        Refused.always("of part -1", NO, p -> p.of(-1, 0));
        Refused.always("of part 10", NO, p -> p.of(10, 0));
        Refused.in(Refused.World.MIDDLE, "of a part that isn't yet", NO, p -> p.of(5, 0));

        Sentence.says("A PART is OFF by so much from a day (0 to 999) on: what it TAKES today then. NO: no such PART, off, day.");
        Check.due("from day 0", x.fail(0, 8, 0), 9);
        Check.due("from day 999", x.fail(0, 8, 999), 1);
        Check.due("what is said later counts", x.fail(0, 3, 0), 4);
        Refused.always("from day -1", NO, p -> p.fail(0, 1, -1));
        Refused.always("from day 1000", NO, p -> p.fail(0, 1, 1000));
        Refused.always("from day most", NO, p -> p.fail(0, 1, MOST));
        Refused.always("from day least", NO, p -> p.fail(0, 1, LEAST));
        Refused.always("of part -1", NO, p -> p.fail(-1, 1, 0));
        Refused.always("of part 10", NO, p -> p.fail(10, 1, 0));
        Refused.in(Refused.World.MIDDLE, "of a part that isn't yet", NO, p -> p.fail(5, 1, 0));

        Sentence.says("THE DAY is n (1 to 99) later: what it is. BAD; FULL: it would be above 999.");
        Check.due("1 later", x.later(1), 1);
        Check.due("99 later", x.later(99), 100);
        int[] bad = {0, 100, -1, LEAST, MOST};
        for (int n : bad) {
            Refused.always("later(" + n + ")", BAD, p -> p.later(n));
        }
        Check.due("just 999", Check.onDay(900).later(99), 999);
        Check.due("just above", Check.onDay(901).later(99), FULL);
        Refused.in(Refused.World.FULL, "1 day more", FULL, p -> p.later(1));
        Refused.in(Refused.World.FULL, "99 days more", FULL, p -> p.later(99));
    }

    private static void promises6to9() {
        Sentence.says("NOISE (0 to 20): what it was. BAD.");
        LoosePlug x = new LoosePlug();
        Check.due("20", x.noise(20), 0);
        Check.due("0", x.noise(0), 20);
        Check.due("1", x.noise(1), 0);
        Check.due("was 1", x.noise(1), 1);
        int[] bad = {-1, 21, LEAST, MOST};
        for (int n : bad) {
            Refused.always("noise(" + n + ")", BAD, p -> p.noise(n));
        }
        Sentence.says("z becomes this: 1.");
        int[] any = {0, -1, LEAST, MOST};
        for (int v : any) {
            Check.due("lots(" + v + ")", x.lots(v), 1);
        }
        x.noise(20);
        x.lots(LEAST + 1);
        x.run(0);
        x.lots(LEAST + 1);
        x.run(0);
        Check.due("the same draw again", x.ran(0, 2), x.ran(1, 2));

        Sentence.says("A RUN: its number. BAD: no such WAY; FULL.");
        Check.due("way 0", x.run(0), 2);
        Check.due("way 1", x.run(1), 3);
        Check.due("its way", x.ran(3, 1), 1);
        int[] ways = {-1, 2, LEAST, MOST};
        for (int way : ways) {
            Refused.always("run(" + way + ")", BAD, p -> p.run(way));
        }
        Refused.in(Refused.World.FULL, "a run more", FULL, p -> p.run(1));

        Sentence.says("A RUN of an OLDER day (THE DAY at most) is told: its number. "
                + "BAD: day, way, soon isn't -9999 to 9999; FULL.");
        LoosePlug y = Check.onDay(6);
        Check.due("THE DAY", y.older(6, 0, 9999), 0);
        Check.due("the day behind", y.older(7, 0, 0), BAD);
        Check.due("day 0", y.older(0, 1, -9999), 1);
        Check.due("the most", y.ran(0, 2), 9999);
        Check.due("the least", y.ran(1, 2), -9999);
        y.later(1);
        Check.due("a day later it can be told", y.older(7, 0, 0), 2);
        int[][] away = {{-1, 0, 0}, {1000, 0, 0}, {MOST, 0, 0}, {LEAST, 0, 0}, {0, -1, 0}, {0, 2, 0}, {0, MOST, 0}, {0, LEAST, 0},
            {0, 0, 10000}, {0, 0, -10000}, {0, 0, MOST}, {0, 0, LEAST}};
        for (int[] a : away) {
            Refused.always("older(" + a[0] + ", " + a[1] + ", " + a[2] + ")", BAD, p -> p.older(a[0], a[1], a[2]));
        }
        Refused.in(Refused.World.NEW, "tomorrow's", BAD, p -> p.older(1, 0, 0));
        Refused.in(Refused.World.MIDDLE, "tomorrow's", BAD, p -> p.older(41, 0, 0));
        Refused.in(Refused.World.FULL, "a run more", FULL, p -> p.older(999, 1, 0));
    }

    private static void promises10and11() {
        Sentence.says("Of a RUN: what = 0 its day, 1 WAY, 2 SOON. NO.");
        LoosePlug x = Check.onDay(8);
        x.older(5, 1, -77);
        int[] due = {5, 1, -77};
        for (int what = 0; what < 3; what++) {
            Check.due("what " + what, x.ran(0, what), due[what]);
        }
        int[] whats = {-1, 3, LEAST, MOST};
        for (int what : whats) {
            Refused.always("ran(0, " + what + ")", NO, p -> p.ran(0, what));
        }
        int[] runs = {-1, 40, LEAST, MOST};
        for (int run : runs) {
            Refused.always("ran(" + run + ", 0)", NO, p -> p.ran(run, 0));
        }
        Check.due("the last of the middle world", Refused.make(Refused.World.MIDDLE).ran(4, 1), 0);
        Refused.in(Refused.World.MIDDLE, "one behind the last", NO, p -> p.ran(5, 1));

        Sentence.says("A TRIAL (by itself, or through the chain): by how much BELIEVED is more then. NO: no such PART.");
        x.part(1, 1, 9, 9, 9);
        x.fail(0, 500, 0);
        Check.due("more", x.tryout(0, true), 500);
        Check.due("as much", x.tryout(0, false), 0);
        x.fail(0, -500, 0);
        Check.due("less", x.tryout(0, true), -1000);
        int[] parts = {-1, 10, LEAST, MOST};
        for (int i : parts) {
            Refused.always("tryout(" + i + ", false)", NO, p -> p.tryout(i, false));
            Refused.always("tryout(" + i + ", true)", NO, p -> p.tryout(i, true));
        }
        Refused.in(Refused.World.MIDDLE, "of a part that isn't yet", NO, p -> p.tryout(5, true));
        Refused.in(Refused.World.NEW, "of part 0", NO, p -> p.tryout(0, false));
    }
}
