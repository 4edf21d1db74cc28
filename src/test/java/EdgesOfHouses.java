/** Part 4 of the terms and promises 28 to 31: rules, facts, signing. */
final class EdgesOfHouses {
    private static final int BAD = -1, FULL = -2, NO = Integer.MIN_VALUE;
    private static final int LEAST = Integer.MIN_VALUE, MOST = Integer.MAX_VALUE;

    private EdgesOfHouses() {
    }

    static void test() {
        howManyHouses();
        eithersAndBoths();
        ones();
        sums();
        openOnes();
        intsThatWrap();
        facts();
        signing();
        promises28and29();
        promises30and31();
    }

    /** What a rule answers, and what it answers denied. */
    private static void ruleDue(String rule, boolean want) {
        LoosePlug x = new LoosePlug();
        Check.due("house '" + rule + "'", Check.house(x, rule), 0);
        Check.due("holds '" + rule + "'", x.holds(0, 3), want ? 1 : 0);
        Check.due("signs '" + rule + "'", x.sign(), x.holds(0, 0));
        Check.due("denied '" + rule + "'", Check.house(x, "not(" + rule + ")"), 1);
        Check.due("denied '" + rule + "'", x.holds(1, 3), want ? 0 : 1);
    }

    private static void howManyHouses() {
        Sentence.says("HOUSES 0 to 7, each with a RULE:");
        LoosePlug x = new LoosePlug();
        for (int h = 0; h < 8; h++) {
            Check.due("not yet", x.holds(h, 0), BAD);
            Check.due("house", Check.house(x, "signed=" + h), h);
            Check.due("its own rule", x.holds(h, h), 1);
            Check.due("its own rule alone", x.holds(h, h + 1), 0);
        }
        Check.due("a ninth", Check.house(x, "1=1"), FULL);
        Check.due("eight", x.many(3), 8);
    }

    private static void eithersAndBoths() {
        Sentence.says("EITHER: BOTH { or BOTH }.");
        Sentence.says("BOTH: ONE { and ONE }.");
        for (int bits = 0; bits < 8; bits++) {
            boolean a = (bits & 1) != 0;
            boolean b = (bits & 2) != 0;
            boolean c = (bits & 4) != 0;
            String[] t = {a ? "1=1" : "1=2", b ? "1=1" : "1=2", c ? "1=1" : "1=2"};
            ruleDue(t[0] + " or " + t[1] + " or " + t[2], a || b || c);
            ruleDue(t[0] + " and " + t[1] + " and " + t[2], a && b && c);
            ruleDue(t[0] + " or " + t[1] + " and " + t[2], a || b && c);
            ruleDue(t[0] + " and " + t[1] + " or " + t[2], a && b || c);
            ruleDue("(" + t[0] + " or " + t[1] + ")and " + t[2], (a || b) && c);
        }
        Check.houseDue("", -100);
        Check.houseDue("or 1=1", -100);
        Check.houseDue("and 1=1", -100);
        Check.houseDue("1=1 or", -106);
        Check.houseDue("1=1 and", -107);
        Check.houseDue("1=1 or or 1=1", -107);
        Check.houseDue("1=1 and or 1=1", -108);
        Check.houseDue("1=1 1=1", -104);
        // As many as a tape takes.
        Check.houseDue("1=1" + " or 1=1".repeat(28), 0);
        Check.houseDue("1=1" + " and 1=1".repeat(24), 0);
    }

    private static void ones() {
        Sentence.says("ONE: not ONE | ( EITHER ) | SUM, one of < = >, and a SUM.");
        int[] sides = {1, 2, 3};
        for (int b : sides) {
            ruleDue("2<" + b, 2 < b);
            ruleDue("2=" + b, 2 == b);
            ruleDue("2>" + b, 2 > b);
        }
        ruleDue("not 1=2 and 1=2", false);
        ruleDue("not(1=2 and 1=2)", true);
        ruleDue("not 1=1 or 1=1", true);
        Check.houseDue("not", -103);
        Check.houseDue("()", -101);
        Check.houseDue("(1=1", -104);
        Check.houseDue("1=1)", -103);
        Check.houseDue("(1=1))", -105);
        Check.houseDue("(1)=1", -102);
        Check.houseDue("(1=1)=1", -105);
        Check.houseDue("1", -101);
        Check.houseDue("1=", -102);
        Check.houseDue("=1", -100);
        Check.houseDue("1=1=1", -103);
        Check.houseDue("1<=1", -102);
        Check.houseDue("1==1", -102);
        Check.houseDue("1!1", -101);
        Check.houseDue("1;1", -101);
        Check.houseDue("1?1", -101);
        Check.houseDue("1=not 1", -102);
        Check.houseDue("1=(1)", -102);
    }

    private static void sums() {
        Sentence.says("SUM: TERM { + or - TERM }.");
        ruleDue("9-3-2=4", true);
        ruleDue("9-3+2=8", true);
        ruleDue("1=9-3-5", true);
        Check.houseDue("1+=1", -102);
        Check.houseDue("1-=1", -102);
        Check.houseDue("+1=1", -100);
        Check.houseDue("1=1+", -104);
        Check.houseDue("1" + "+1".repeat(98) + "=99", 0);
        LoosePlug tokens = new LoosePlug();
        Check.due("a rule of 200 tokens", Check.house(tokens, "-1" + "+1".repeat(98) + ">1"), 0);
        Check.due("holds", tokens.holds(0, 0), 1);
        Check.houseDue("-1" + "+1".repeat(98) + "=+", -299);
        Check.houseDue("1,1=1", -101);
        Sentence.says("TERM: AT { * AT }.");
        ruleDue("2+3*4=14", true);
        ruleDue("2*3+4=10", true);
        ruleDue("2*3*4=24", true);
        ruleDue("20-2*3=14", true);
        Check.houseDue("*1=1", -100);
        Check.houseDue("2*=1", -102);
        Check.houseDue("2**2=4", -102);
        Check.houseDue("4/2=2", -101);
        Sentence.says("AT: NUMBER | - AT | FACT.");
        ruleDue("-2=0-2", true);
        ruleDue("--2=2", true);
        ruleDue("2*-3=-6", true);
        ruleDue("-2*3=-6", true);
        ruleDue("9--3=12", true);
        ruleDue("9---3=6", true);
        ruleDue("signed=3", true);
        ruleDue("-signed=-3", true);
        Check.houseDue("-=1", -101);
        Check.houseDue("- not 1=1", -102);
        Check.houseDue("-(1)=1", -101);
        Check.houseDue("10000=1", -100);
        String[] words = {"part", "by", "from", "light", "nothing", "takes", "a", "kind"};
        for (String word : words) {
            Check.houseDue("1=" + word, -102);
        }
    }

    private static void openOnes() {
        Sentence.says("At most 4 of not, ( and - (ahead of an AT) are open within one another (each till what it is ahead "
                + "of ends; ( till its ) ).");
        Check.houseDue("not not not not 1=1", 0);
        Check.houseDue("not not not not not 1=1", -116);
        Check.houseDue("((((1=1))))", 0);
        Check.houseDue("(((((1=1)))))", -104);
        Check.houseDue("----1=1", 0);
        Check.houseDue("-----1=1", -104);
        Check.houseDue("1=----1", 0);
        Check.houseDue("1=-----1", -106);
        // One of each kind, and the fifth of each kind.
        Check.houseDue("not(not -1=1)", 0);
        Check.houseDue("not(not --1=1)", -109);
        Check.houseDue("not(not(1=1))", 0);
        Check.houseDue("not(not(not 1=1))", -108);
        Check.houseDue("not(not((1=1)))", -108);
        Check.houseDue("((((-1=1))))", -104);
        Check.houseDue("((((1=-1))))", -106);
        Check.houseDue("not not not not -1=1", -116);
        Check.houseDue("not not not not 1=-1", -118);
        // A minus between terms is not open, one ahead of an at is till that at ends.
        Check.houseDue("1-1-1-1-1-1=1", 0);
        Check.houseDue("1-----1=1", 0);
        Check.houseDue("1------1=1", -106);
        Check.houseDue("----1*----1+----1-----1=----1", 0);
        Check.houseDue("----1*-----1=1", -110);
        // A not is open till its one ends, a bracket till its other half.
        Check.houseDue("not not not not 1=1 and not not not not 1=1", 0);
        Check.houseDue("not not not not 1=1 or ----1=1", 0);
        Check.houseDue("((((1=1))))and((((1=1))))or ----1=1", 0);
        Check.houseDue("((((1=1)and -1=1)))", 0);
        Check.houseDue("((((1=1)and --1=1)))", -113);
        Check.houseDue("(((1=1)and --1=1)or not not 1=1)", 0);
        Check.houseDue("(((1=1)and ---1=1))", -113);
        Check.houseDue("(not not not 1=1 and not not not 1=1)", 0);
        Check.houseDue("(not not not 1=1 and not not not not 1=1)", -133);
    }

    private static void intsThatWrap() {
        Sentence.says("Ints that wrap.");
        // 9999 to the third is 999700029999, which wraps to -1027349969.
        ruleDue("9999*9999>0", true);
        ruleDue("9999*9999*9999<0", true);
        ruleDue("9999*9999*9999=-1027*1000*1000-349*1000-969", true);
        // 2147483647 is 2147 * 1000 * 1000 + 483 * 1000 + 647.
        ruleDue("2147*1000*1000+483*1000+647>0", true);
        ruleDue("2147*1000*1000+483*1000+648<0", true);
        ruleDue("-2147*1000*1000-483*1000-648<0", true);
        ruleDue("-2147*1000*1000-483*1000-649>0", true);
        ruleDue("0-2147*1000*1000-483*1000-648=2147*1000*1000+483*1000+648", true);
        ruleDue("2147*1000*1000+483*1000+647+1<2147*1000*1000+483*1000+647", true);
    }

    /** A fact is told by fact() and by its word in a rule alike. */
    private static void factDue(LoosePlug x, String word, int which, int want) {
        Check.due(word, x.fact(which), want);
        x.keep();
        int h = Check.house(x, word + "=" + (want < 0 ? "-" : "") + Math.abs(want));
        Check.due("the rule of " + word, x.holds(h, 0), 1);
        x.back();
    }

    private static void facts() {
        Sentence.says("FACTS: day; runs: how many RUNS;");
        factDue(new LoosePlug(), "day", 0, 0);
        factDue(Check.onDay(999), "day", 0, 999);
        LoosePlug x = new LoosePlug();
        factDue(x, "runs", 1, 0);
        for (int r = 0; r < 40; r++) {
            x.run(r % 2);
        }
        x.run(0);
        factDue(x, "runs", 1, 40);
        Sentence.says("soon: the mean SOON of the RUNS of WAY 0, cut (0 without);");
        LoosePlug y = new LoosePlug();
        factDue(y, "soon", 2, 0);
        y.older(0, 1, 500);
        factDue(y, "soon", 2, 0);
        y.older(0, 0, 7);
        factDue(y, "soon", 2, 7);
        y.older(0, 0, -10);
        factDue(y, "soon", 2, -1);
        y.older(0, 0, 5);
        factDue(y, "soon", 2, 0);
        y.older(0, 0, 9);
        factDue(y, "soon", 2, 2);
        LoosePlug last = Check.onDay(999);
        last.older(0, 0, 5);
        last.older(999, 0, 8);
        factDue(last, "soon", 2, 6);
        Sentence.says("tried: how many PARTS are TRIED (by a TRIAL); spent: HOURS SPENT;");
        LoosePlug z = new LoosePlug();
        for (int i = 0; i < 10; i++) {
            z.part(1, 1, 1, 1, 60);
        }
        factDue(z, "tried", 3, 0);
        factDue(z, "spent", 4, 0);
        for (int i = 0; i < 10; i++) {
            z.tryout(i, i % 2 == 0);
            z.tryout(i, false);
            factDue(z, "tried", 3, i + 1);
            factDue(z, "spent", 4, 120 * (i + 1));
        }
        Sentence.says("miss: the least MISS of the STORIES (0 without);");
        LoosePlug w = new LoosePlug();
        w.older(0, 0, 50);
        factDue(w, "miss", 5, 0);
        Check.story(w, "nothing", 1);
        factDue(w, "miss", 5, 50);
        Check.story(w, "light by 9", 1);
        factDue(w, "miss", 5, 41);
        Check.story(w, "light by 8", 1);
        factDue(w, "miss", 5, 41);
        Sentence.says("signed: how many HOUSES have SIGNED so far.");
        LoosePlug v = new LoosePlug();
        Check.house(v, "signed<9");
        v.sign();
        factDue(v, "signed", 6, 0);
        for (int signed = 0; signed <= 8; signed++) {
            Check.house(v, "signed=" + signed);
        }
        for (int h = 1; h < 8; h++) {
            for (int signed = 0; signed <= 8; signed++) {
                Check.due("signed " + signed, v.holds(h, signed), signed == h - 1 ? 1 : 0);
            }
        }
    }

    private static LoosePlug houses(String... rules) {
        LoosePlug x = new LoosePlug();
        for (String rule : rules) {
            Check.house(x, rule);
        }
        return x;
    }

    private static void signing() {
        Sentence.says("SIGNING: none has; HOUSES are asked by numbers, those that haven't SIGNED: one whose RULE holds SIGNS at once; "
                + "round by round, till in a round nobody does.");
        Check.due("no house", houses().sign(), 0);
        LoosePlug once = houses("signed=0");
        Check.due("none has", once.sign(), 1);
        Check.due("none has, again", once.sign(), 1);
        Check.due("by numbers", houses("signed=1", "signed=0").sign(), 3);
        Check.due("at once", houses("signed=0", "signed=0").sign(), 1);
        Check.due("at once, for the next", houses("signed=0", "signed=1", "signed=2").sign(), 7);
        Check.due("who has signed is not asked again", houses("signed<2", "signed=2").sign(), 1);
        Check.due("passed by", houses("signed=0", "signed>0", "signed=1").sign(), 3);
        Check.due("two rounds", houses("signed=2", "signed=0", "signed=1").sign(), 7);
        Check.due("a house a round", houses("signed=7", "signed=6", "signed=5", "signed=4", "signed=3", "signed=2", "signed=1",
                "signed=0").sign(), 255);
        Check.due("nobody begins", houses("signed=7", "signed=1", "signed>0").sign(), 0);
        Check.due("it ends with the round in which nobody does", houses("signed=3", "signed=0", "signed>3", "signed=2").sign(), 2);
    }

    private static void promises28and29() {
        Sentence.says("THE TAPE is the RULE of a new HOUSE: its number. FULL (THE TAPE stays); -100 less THE FAULT.");
        Refused.in(Refused.World.FULL, "a ninth house", FULL, LoosePlug::house);
        Refused.butTape(Refused.World.NEW, "a rule that has no end", -102, p -> {
            Check.feed(p, "1=");
            return p.house();
        });
        Refused.butTape(Refused.World.NEW, "a rule that has too much", -104, p -> {
            Check.feed(p, "1=1 1");
            return p.house();
        });
        Refused.butTape(Refused.World.MIDDLE, "no rule", -100, LoosePlug::house);
        LoosePlug x = Refused.make(Refused.World.MIDDLE);
        x.house();
        Check.due("its number", Check.house(x, "1=1"), 3);
        Check.due("used up", x.many(5), 0);

        Sentence.says("A FACT (0 day, 1 runs, 2 soon, 3 tried, 4 spent, 5 miss, 6 signed: none yet). NO.");
        LoosePlug y = Check.onDay(12);
        y.part(0, 3, 1, 1, 7);
        y.tryout(0, false);
        y.older(0, 0, -5);
        y.older(0, 1, 100);
        Check.story(y, "nothing", 1);
        Check.house(y, "1=1");
        y.sign();
        int[] due = {12, 2, -5, 1, 7, 105, 0};
        for (int which = 0; which < 7; which++) {
            Check.due("fact " + which, y.fact(which), due[which]);
        }
        int[] others = {-1, 7, LEAST, MOST};
        for (int which : others) {
            Refused.always("fact " + which, NO, p -> p.fact(which));
        }
    }

    private static void promises30and31() {
        Sentence.says("1 if a HOUSE's RULE holds with so many SIGNED (0 to 8), else 0. BAD.");
        LoosePlug x = houses("signed<1", "signed>7");
        Check.due("0", x.holds(0, 0), 1);
        Check.due("1", x.holds(0, 1), 0);
        Check.due("7", x.holds(1, 7), 0);
        Check.due("8", x.holds(1, 8), 1);
        LoosePlug day = houses("day=1", "spent=0");
        Check.due("not today", day.holds(0, 0), 0);
        day.later(1);
        Check.due("but tomorrow", day.holds(0, 0), 1);
        Check.due("and no hours are spent", day.holds(1, 0), 1);
        int[] others = {-1, 9, LEAST, MOST};
        for (int signed : others) {
            Refused.always("holds with " + signed, BAD, p -> p.holds(0, signed));
        }
        int[] none = {-1, 8, LEAST, MOST};
        for (int h : none) {
            Refused.always("holds of house " + h, BAD, p -> p.holds(h, 0));
        }
        Refused.in(Refused.World.MIDDLE, "holds of a house that isn't yet", BAD, p -> p.holds(3, 0));
        Refused.in(Refused.World.NEW, "holds of house 0", BAD, p -> p.holds(0, 0));
        Sentence.says("SIGNING: HOUSES that SIGN, as bits.");
        Check.due("the first", houses("1=1", "1=2").sign(), 1);
        Check.due("the second", houses("1=2", "1=1").sign(), 2);
        Check.due("the last", houses("1=2", "1=2", "1=2", "1=2", "1=2", "1=2", "1=2", "1=1").sign(), 128);
        LoosePlug y = houses("day=1", "day=0");
        Check.due("today", y.sign(), 2);
        y.later(1);
        Check.due("tomorrow", y.sign(), 1);
    }
}
