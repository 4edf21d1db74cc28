/** Promises 28 to 31: houses. */
final class HouseTest {
    private static final int BAD = -1, FULL = -2, NO = Integer.MIN_VALUE;

    public static void main(String[] args) {
        promise28();
        faults();
        openOnes();
        promise29();
        promise30();
        promise31();
        Check.end();
    }

    private static void promise28() {
        LoosePlug x = new LoosePlug();
        Check.due("empty", x.house(), -100);
        for (int h = 0; h < 8; h++) {
            Check.due("house", Check.house(x, "day<" + h), h);
            Check.due("the tape is used up", x.many(5), 0);
        }
        Check.feed(x, "day");
        Check.due("full", x.house(), FULL);
        Check.due("the tape stays", x.many(5), 3);
        Check.due("houses", x.many(3), 8);
        LoosePlug y = new LoosePlug();
        Check.due("a fault", Check.house(y, "day<day<day"), -107);
        Check.due("used up by a fault too", y.many(5), 0);
        Check.houseDue("  day = 1 or runs<2 and not soon>3 or (tried<1 or spent=2)and miss*-2+1-signed>0 ", 0);
        StringBuilder longest = new StringBuilder("1");
        for (int k = 0; k < 98; k++) {
            longest.append("+1");
        }
        longest.append("=99");
        Check.houseDue(longest.toString(), 0);
        StringBuilder chain = new StringBuilder("1<2");
        for (int k = 0; k < 28; k++) {
            chain.append("or 1<2");
        }
        Check.houseDue(chain.toString(), 0);
    }

    private static void faults() {
        Check.houseDue("   ", -103);
        Check.houseDue("day", -103);
        Check.houseDue("day ", -104);
        Check.houseDue("day<", -104);
        Check.houseDue("<3", -100);
        Check.houseDue("day<3 day", -106);
        Check.houseDue("day<3 or", -108);
        Check.houseDue("day<3 or or", -109);
        Check.houseDue("day<3 not day<4", -106);
        Check.houseDue("day not <3", -104);
        Check.houseDue("(day<3", -106);
        Check.houseDue("(day)<3", -104);
        Check.houseDue("(day<3)<4", -107);
        Check.houseDue("(day<3) (day<4)", -108);
        Check.houseDue("()", -101);
        Check.houseDue("day<(3)", -104);
        Check.houseDue("day+not day<3", -104);
        Check.houseDue("day+(3)<4", -104);
        Check.houseDue("-(3)<4", -101);
        Check.houseDue("-not 3<4", -101);
        Check.houseDue("day<=3", -104);
        Check.houseDue("day<+3", -104);
        Check.houseDue("day*/3", -104);
        Check.houseDue("day 3<4", -104);
        Check.houseDue("days<3", -100);
        Check.houseDue("dayz<3", -100);
        Check.houseDue("bay<3", -100);
        Check.houseDue("Day<3", -100);
        Check.houseDue("day<3\t", -105);
        Check.houseDue("day<00003", -104);
        Check.houseDue("day<0003", 0);
        Check.houseDue("3day<4", -101);
        Check.houseDue("3-day<4", 0);
        Check.houseDue("part<4", -100);
        Check.houseDue("day<3 and and", -110);
        Check.houseDue("day<3 and by", -110);
        Check.houseDue("notday<3", -100);
        Check.houseDue("not", -103);
        Check.houseDue("not(", -104);
    }

    private static void openOnes() {
        Check.houseDue("----1<----1", 0);
        Check.houseDue("-----1<1", -104);
        Check.houseDue("1<-----1", -106);
        Check.houseDue("1-----1<1", 0);
        Check.houseDue("1------1<1", -106);
        Check.houseDue("not not not not -1<1", -116);
        Check.houseDue("not not not -1<-1", 0);
        Check.houseDue("not not not --1<-1", -113);
        Check.houseDue("not not not not 1<1 and not not not not 1<-1", -100 - 42);
        Check.houseDue("(((1<1)and -1<1)and -1<1)and ----1<1", 0);
        Check.houseDue("((((1<1))and --1<1))", 0);
        Check.houseDue("((((1<1))and ---1<1))", -100 - 15);
        Check.houseDue("not(not(1<1))", 0);
        Check.houseDue("not(not(not 1<1))", -100 - 8);
        Check.houseDue("not((not 1<1))", 0);
        Check.houseDue("not((not(1<1)))", -100 - 8);
        Check.houseDue("not((1<1 and -1<1 or --1<1))", -100 - 22);
        Check.houseDue("(not 1<1 or ---1<1)", 0);
        Check.houseDue("(not 1<1 or ----1<1)", -100 - 15);
        Check.houseDue("((((1<1)or 1<1)or 1<1)or 1<1)or not not not not 1<1", 0);
    }

    private static void promise29() {
        LoosePlug x = new LoosePlug();
        for (int which = 0; which < 7; which++) {
            Check.due("fact at first", x.fact(which), 0);
        }
        x.part(0, 3, 1, 1, 7);
        x.part(0, 3, 1, 1, 11);
        x.later(5);
        x.tryout(1, false);
        x.tryout(1, true);
        x.older(0, 0, -5);
        x.older(0, 0, -6);
        x.older(0, 1, 100);
        Check.story(x, "nothing", 1);
        Check.story(x, "light by 10", 1);
        Check.house(x, "1=1");
        x.sign();
        int[] due = {5, 3, -5, 1, 22, 111, 0};
        for (int which = 0; which < 7; which++) {
            Check.due("fact " + which, x.fact(which), due[which]);
        }
        Check.due("fact 7", x.fact(7), NO);
        Check.due("fact -1", x.fact(-1), NO);
        Check.story(x, "light by -5", 1);
        Check.due("the least miss", x.fact(5), 106);
    }

    private static void ruleDue(String rule, int want) {
        LoosePlug x = new LoosePlug();
        Check.due("house '" + rule + "'", Check.house(x, rule), 0);
        Check.due("holds '" + rule + "'", x.holds(0, 3), want);
        Check.due("house, denied", Check.house(x, "not (" + rule + ")"), 1);
        Check.due("denied '" + rule + "'", x.holds(1, 3), 1 - want);
    }

    private static void promise30() {
        ruleDue("signed=3", 1);
        ruleDue("signed<3", 0);
        ruleDue("signed>3", 0);
        ruleDue("signed>2", 1);
        ruleDue("2+3*4=14", 1);
        ruleDue("2*3+4=10", 1);
        ruleDue("9-3-2=4", 1);
        ruleDue("9-3+2=8", 1);
        ruleDue("-2*3=0-6", 1);
        ruleDue("2*-3=-6", 1);
        ruleDue("--3=3", 1);
        ruleDue("9--3=12", 1);
        ruleDue("-2<1", 1);
        ruleDue("1=1 or 1=1 and 1=2", 1);
        ruleDue("(1=1 or 1=1)and 1=2", 0);
        ruleDue("1=2 and 1=1 or 1=1", 1);
        ruleDue("1=2 and(1=1 or 1=1)", 0);
        ruleDue("not 1=2 and 1=2", 0);
        ruleDue("not 1=1 or 1=1", 1);
        ruleDue("not not 1=1", 1);
        // 9999 to the third is 999700029999: below 0 as an int that wraps, but not to the second.
        ruleDue("9999*9999*9999<0", 1);
        ruleDue("9999*9999>0", 1);
        ruleDue("9999*9999*9999=-1027*1000*1000-349*1000-969", 1);
    }

    private static void promise31() {
        LoosePlug x = new LoosePlug();
        Check.due("no houses", x.sign(), 0);
        Check.house(x, "signed=3");
        Check.house(x, "signed>0");
        Check.house(x, "day=0");
        Check.house(x, "signed>3");
        Check.house(x, "signed=9");
        // Round one: 2. Round two: 1 signs; at two signed nobody else; round three: nobody.
        Check.due("two", x.sign(), 6);
        Check.house(x, "signed=2");
        // Round one: 2. Round two: 1, then 5 at two. Round three: 0 at three, then 3 at four.
        Check.due("five", x.sign(), 47);
        Check.due("none has at first", x.sign(), 47);
        Check.due("fact", x.fact(6), 0);
        x.later(1);
        Check.due("nobody begins", x.sign(), 0);
        Check.due("holds 0", x.holds(0, 3), 1);
        Check.due("holds 8", x.holds(3, 8), 1);
        Check.due("signed -1", x.holds(0, -1), BAD);
        Check.due("signed 9", x.holds(0, 9), BAD);
        Check.due("no such house", x.holds(6, 0), BAD);
        Check.due("house -1", x.holds(-1, 0), BAD);
        LoosePlug y = new LoosePlug();
        for (int h = 7; h >= 0; h--) {
            Check.house(y, "signed=" + h);
        }
        Check.due("a house a round", y.sign(), 255);
        LoosePlug later = new LoosePlug();
        Check.house(later, "day=2 and signed=0");
        later.later(1);
        Check.due("not yet", later.sign(), 0);
        later.later(1);
        Check.due("the facts of today", later.sign(), 1);
        LoosePlug z = new LoosePlug();
        Check.house(z, "signed<1");
        Check.house(z, "signed<1");
        Check.due("at once", z.sign(), 1);
    }
}
