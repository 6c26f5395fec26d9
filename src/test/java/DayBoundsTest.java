/** Rules and part 2 of the terms, sentence by sentence: ints that wrap, what is kept to 0 to 99, the order of a day. */
public final class DayBoundsTest {
    public static void main(String[] args) {
        intsWrap();
        divisionIsCutDown();
        whatIsNotZeroHolds();
        fromTheLeft();
        valuesOfABlade();
        foesAreWhereItIs();
        withinAndAbove();
        outAtFirst();
        atRestForEver();
        asTheyAreWhenTheDayBegins();
        coolsIsKept();
        risesIsKept();
        withoutRules();
        angerStaysWithin();
        whoIsLaidToRest();
        othersStayInOrder();
        hiccupsByTheDay();
        hiccupsOfTheTopAlone();
        hiccupsBehindRest();
        fightsFromPatienceOn();
        fightsNeedTwoOut();
        firstTwoFight();
        onceADay();
        halfIsCutDown();
        theDayIsOneMore();
        Check.end("DayBoundsTest");
    }

    /** What a rule gives for a blade of length 7 with anger 30; the answer is kept to 0 to 99. */
    private static void rule(String expr, int due) {
        Check.due("rises " + expr, Check.city("blade 0 7 30;rises " + expr + ";").blade(0, 6), due);
        SwordPeace x = Check.city("swallower 9 0;blade 0 7 30;cools " + expr + ";");
        x.swallow(0, 0);
        Check.due("cools " + expr, x.blade(0, 6), due);
    }

    // "ints that wrap"
    private static void intsWrap() {
        String power = "8192*8192*32";
        rule("(" + power + "<0)*9", 9);
        rule("(" + power + "-1=2147*1000*1000+483*1000+647)*9", 9);
        rule("(2147*1000*1000+483*1000+647+1=" + power + ")*9", 9);
        rule("(" + power + "+" + power + "=0)*9", 9);
        rule("(" + power + "*2=0)*9", 9);
        rule("(0-" + power + "=" + power + ")*9", 9);
        rule("8192*8192*64+5", 5);
        rule("(9999*9999*9999*9999=9999*9999*(9999*9999))*9", 9);
        rule("9999*9999*22", 0);
        rule("(9999*9999*22<0)*8", 8);
        rule("9999*9999*43/9999/9", 46);
    }

    // "/ cut down to 0, by 0 gives 0"
    private static void divisionIsCutDown() {
        rule("7/2", 3);
        rule("(0-7)/2+10", 7);
        rule("7/(0-2)+10", 7);
        rule("(0-7)/(0-2)", 3);
        rule("(0-1)/2+10", 10);
        rule("1/2", 0);
        rule("9/0+4", 4);
        rule("0/0+4", 4);
        rule("(0-9)/0+4", 4);
        rule("9/(1-1)*5+4", 4);
        rule("9/0*9+4", 4);
        rule("0/9", 0);
        rule("(8192*8192*32/(0-1)=8192*8192*32)*9", 9);
        rule("8192*8192*32/(8192*8192*32)", 1);
    }

    // "tests, not, and, or are 1 or 0 (what isn't 0 holds)"
    private static void whatIsNotZeroHolds() {
        String minus = "(0-1)";
        rule(minus + " and 5", 1);
        rule(minus + " or 0", 1);
        rule("0 or " + minus, 1);
        rule("0 or 0", 0);
        rule("5 and 0", 0);
        rule("0 and 5", 0);
        rule("not " + minus, 0);
        rule("not 0", 1);
        rule("not not 9", 1);
        rule("9 or 9", 1);
        rule("9 and 9", 1);
        rule("1<2", 1);
        rule("2<2", 0);
        rule("3<2", 0);
        rule(minus + "<0", 1);
        rule("8192*8192*32<0", 1);
        rule("2=2", 1);
        rule("2=1", 0);
        rule("2=3", 0);
        rule("not 8192*8192*32", 0);
        rule("1 and not 0", 1);
        rule("1 and not 1", 0);
        rule("0 or not 0", 1);
        rule("9*(not 0)", 9);
        for (String none : new String[] {"0 or 0", "9 and 0", "0 and 9", "not 9", "9<9", "9=8"}) {
            rule("5+(" + none + ")", 5);
        }
        for (String one : new String[] {"0 or 9", "9 or 0", "9 and 8", "not 0", "8<9", "9=9"}) {
            rule("5+(" + one + ")", 6);
        }
    }

    // "From the left"
    private static void fromTheLeft() {
        rule("50-20-10", 20);
        rule("50-(20-10)", 40);
        rule("48/4/3", 4);
        rule("48/(4/3)", 48);
        rule("7/2*2", 6);
        rule("7*2/2", 7);
        rule("2+3*4", 14);
        rule("20-2*3+1", 15);
        rule("1 or 0 and 0", 1);
        rule("0 and 0 or 1", 1);
        rule("not 0 and 0", 0);
        rule("not 1+1<1", 1);
        rule("1+1<1+2", 1);
    }

    // "VALUES of a BLADE on a DAY: 'anger', 'length', 'day'"
    private static void valuesOfABlade() {
        rule("anger", 30);
        rule("length", 7);
        rule("day", 0);
        rule("foes", 0);
        for (int anger : new int[] {0, 1, 98, 99}) {
            Check.due("anger " + anger, Check.city("blade 0 1 " + anger + ";rises anger;").blade(0, 6), anger);
        }
        Check.due("length 40", Check.city("blade 0 40 0;rises length;").blade(0, 6), 40);
        SwordPeace x = Check.city("blade 0 1 0;rises (day=0)*3+(day=20)*50;");
        Check.due("on day 0", x.blade(0, 6), 3);
        x.days(20);
        Check.due("it rose on day 0 alone", x.blade(0, 2), 3);
        Check.due("on day 20", x.blade(0, 6), 50);
        SwordPeace y = Check.city("blade 0 1 0;rises (998<day)*9;");
        for (int i = 0; i < 49; i++) {
            y.days(20);
        }
        y.days(19);
        Check.due("day 999", y.count(4), 999);
        Check.due("nothing up to day 998", y.blade(0, 2), 0);
        Check.due("by day 999", y.blade(0, 6), 9);
        Check.due("what would be goes on behind day 999", y.then(0, 2, 0), 18);
    }

    // "'foes' (how many BLADES of HOUSES at feud with its HOUSE are where it is: in the same SWALLOWER, or OUT)"
    private static void foesAreWhereItIs() {
        SwordPeace x = Check.city("feud 0 1;feud 0 2;swallower 9 0;swallower 9 0;blade 0 1 50;blade 1 1 50;blade 2 1 50;"
                + "blade 0 1 50;blade 3 1 50;blade 1 1 1;");
        int[] due = {3, 2, 2, 3, 0, 2};
        foes("all out", x, due);
        x.swallow(1, 0);
        foes("one in", x, new int[] {2, 0, 2, 2, 0, 2});
        x.swallow(0, 1);
        foes("two in two", x, new int[] {0, 0, 1, 2, 0, 1});
        x.swallow(3, 0);
        foes("two in one", x, new int[] {0, 1, 0, 1, 0, 0});
        x.swallow(5, 0);
        x.swallow(2, 0);
        foes("three with one", x, new int[] {0, 1, 1, 3, 0, 1});
        x.days(1);
        Check.due("one is at rest", x.count(7), 32);
        foes("at rest it is with nobody", x, new int[] {0, 1, 1, 2, 0, 0});
        x.make(0, 2, false);
        foes("made up", x, new int[] {0, 1, 0, 1, 0, 0});
        SwordPeace y = Check.city("feud 0 1;swallower 9 0;blade 0 1 0;blade 1 1 0;");
        y.swallow(0, 0);
        y.swallow(1, 0);
        y.days(1);
        Check.due("both at rest", y.count(7), 3);
        foes("both at rest", y, new int[] {0, 0});
    }

    private static void foes(String when, SwordPeace x, int[] due) {
        for (int b = 0; b < due.length; b++) {
            Check.due(when + ": foes of " + b, x.blade(b, 5), due[b]);
        }
    }

    // "'within' (how many others are in the same SWALLOWER), 'above' (how many of these were swallowed behind it)"
    private static void withinAndAbove() {
        SwordPeace x = Check.city("swallower 99 0;swallower 99 0;" + "blade 0 1 99;".repeat(10) + "cools 10*within+above;");
        x.swallow(4, 0);
        Check.due("alone", x.blade(4, 6), 0);
        for (int b = 9; b >= 0; b--) {
            if (b != 4) {
                x.swallow(b, 0);
            }
        }
        Check.due("under nine", x.blade(4, 6), 99);
        Check.due("above all", x.blade(0, 6), 90);
        Check.due("under one", x.blade(1, 6), 91);
        Check.due("under eight", x.blade(9, 6), 98);
        x.draw(0);
        x.swallow(0, 1);
        Check.due("others are in another one", x.blade(0, 6), 0);
        Check.due("under seven of eight others", x.blade(9, 6), 87);
    }

    // "A BLADE is OUT (0) at first, or IN a SWALLOWER (1), or AT REST (2: for ever)."
    private static void outAtFirst() {
        SwordPeace x = Check.city("swallower 9 0;" + "blade 0 1 0;".repeat(10));
        for (int b = 0; b < 10; b++) {
            Check.due("out", x.blade(b, 3), 0);
            Check.due("in none", x.blade(b, 4), -1);
        }
        x.swallow(9, 0);
        Check.due("in", x.blade(9, 3), 1);
        Check.due("in 0", x.blade(9, 4), 0);
        x.days(1);
        Check.due("at rest", x.blade(9, 3), 2);
        Check.due("in none", x.blade(9, 4), -1);
        Check.due("out without anger is out", x.blade(8, 3), 0);
        Check.due("never at rest", x.rests(8), -1);
    }

    private static void atRestForEver() {
        SwordPeace x = Check.city("feud 0 1;swallower 9 1;blade 0 1 1;blade 1 1 60;cools 5;rises 30;patience 1;");
        x.swallow(0, 0);
        x.days(1);
        Check.due("at rest", x.blade(0, 3), 2);
        Check.due("not swallowed", x.swallow(0, 0), -1);
        Check.due("not drawn", x.draw(0), -1);
        x.days(20);
        Check.due("still", x.blade(0, 3), 2);
        Check.due("it neither cools nor rises", x.blade(0, 6), 0);
        Check.due("no anger", x.blade(0, 2), 0);
        Check.due("no fights", x.count(8), 0);
        Check.due("then", x.then(0, 60, 1), 2);
        Check.due("in no one's way", x.throat(0, 2), 9);
        Check.due("nor on top", x.throat(0, 4), -1);
    }

    // "each BLADE that is IN cools, each that is OUT rises, all as they are when the DAY begins"
    private static void asTheyAreWhenTheDayBegins() {
        SwordPeace x = Check.city("feud 0 1;swallower 9 0;blade 0 1 1;blade 1 1 10;blade 0 1 10;cools foes*3+within+above;");
        x.swallow(0, 0);
        x.swallow(1, 0);
        x.swallow(2, 0);
        x.days(1);
        Check.due("the first one rests", x.count(7), 1);
        Check.due("but counts for the second on this day: 6 + 2 + 1", x.blade(1, 2), 1);
        Check.due("and the third: 3 + 2 + 0", x.blade(2, 2), 5);
        SwordPeace y = Check.city("feud 0 1;swallower 9 1;blade 0 1 40;blade 1 1 40;rises foes*10;cools 7;");
        y.swallow(0, 0);
        y.days(1);
        Check.due("out by a hiccup it has cooled on this day", y.blade(0, 2), 33);
        Check.due("and was no foe out", y.blade(1, 2), 40);
        y.days(1);
        Check.due("then it is", y.blade(1, 2), 50);
    }

    // "ANGER is less by what COOLS gives, kept to 0 to 99"
    private static void coolsIsKept() {
        cools("0-1", 0, 50);
        cools("0", 0, 50);
        cools("49", 49, 1);
        cools("50", 50, 0);
        cools("51", 51, 0);
        cools("99", 99, 0);
        cools("100", 99, 0);
        cools("9999", 99, 0);
        cools("8192*8192*32", 0, 50);
    }

    private static void cools(String expr, int by, int anger) {
        SwordPeace x = Check.city("swallower 9 0;blade 0 1 50;cools " + expr + ";");
        x.swallow(0, 0);
        Check.due("cools by " + expr, x.blade(0, 6), by);
        Check.due("then " + expr, x.then(0, 1, 0), anger);
        x.days(1);
        Check.due("anger by " + expr, x.blade(0, 2), anger);
        Check.due("at rest by " + expr, x.blade(0, 3), anger == 0 ? 2 : 1);
    }

    // "or more by what RISES gives, kept likewise"
    private static void risesIsKept() {
        rises("0-1", 0, 50);
        rises("0", 0, 50);
        rises("48", 48, 98);
        rises("49", 49, 99);
        rises("50", 50, 99);
        rises("99", 99, 99);
        rises("100", 99, 99);
        rises("9999", 99, 99);
        rises("8192*8192*31", 99, 99);
        rises("8192*8192*32", 0, 50);
    }

    private static void rises(String expr, int by, int anger) {
        SwordPeace x = Check.city("blade 0 1 50;rises " + expr + ";");
        Check.due("rises by " + expr, x.blade(0, 6), by);
        x.days(1);
        Check.due("anger by " + expr, x.blade(0, 2), anger);
    }

    // "(without it 2, and 1 for each of 'foes')", "(without it 1 for each of 'foes')"
    private static void withoutRules() {
        SwordPeace x = Check.city("feud 0 1;swallower 99 0;blade 0 1 50;" + "blade 1 1 50;".repeat(9));
        Check.due("rises by nine", x.blade(0, 6), 9);
        Check.due("rises by one", x.blade(9, 6), 1);
        x.swallow(0, 0);
        Check.due("none is out with it", x.blade(9, 6), 0);
        Check.due("cools by 2", x.blade(0, 6), 2);
        for (int b = 1; b < 10; b++) {
            x.swallow(b, 0);
        }
        Check.due("cools by 2 and nine", x.blade(0, 6), 11);
        Check.due("cools by 2 and one", x.blade(9, 6), 3);
        x.days(1);
        Check.due("anger", x.blade(0, 2), 39);
        Check.due("anger of another", x.blade(9, 2), 47);
        SwordPeace y = Check.city("feud 0 1;swallower 9 0;blade 0 1 50;blade 1 1 50;cools 30;");
        Check.due("only cools is told, so it rises by foes", y.blade(0, 6), 1);
        SwordPeace z = Check.city("feud 0 1;swallower 9 0;blade 0 1 50;blade 1 1 50;rises 30;");
        z.swallow(0, 0);
        Check.due("only rises is told, so it cools by 2", z.blade(0, 6), 2);
        SwordPeace w = Check.city("feud 0 1;swallower 9 0;blade 0 1 50;blade 1 1 50;rises 0;cools 0;");
        Check.due("a rule of 0 is one", w.blade(0, 6), 0);
        w.swallow(0, 0);
        Check.due("a rule of 0 is one for cooling, too", w.blade(0, 6), 0);
    }

    // "ANGER stays within 0 to 99."
    private static void angerStaysWithin() {
        SwordPeace x = Check.city("blade 0 1 96;blade 0 1 97;blade 0 1 98;blade 0 1 99;rises 2;");
        x.days(1);
        angers("2 more", x, 98, 99, 99, 99);
        SwordPeace y = Check.city("swallower 9 0;blade 0 1 0;blade 0 1 1;blade 0 1 2;blade 0 1 3;");
        for (int b = 0; b < 4; b++) {
            y.swallow(b, 0);
        }
        y.days(1);
        angers("2 less", y, 0, 0, 0, 1);
    }

    // "Then each BLADE that is IN, and has no ANGER, is AT REST"
    private static void whoIsLaidToRest() {
        SwordPeace x = Check.city("swallower 9 0;blade 0 1 0;blade 0 1 1;blade 0 1 2;blade 0 1 3;cools 2;");
        x.swallow(0, 0);
        x.swallow(1, 0);
        x.swallow(2, 0);
        x.swallow(3, 0);
        Check.due("none ahead of a day", x.count(7), 0);
        x.days(1);
        Check.due("those without anger", x.count(7), 7);
        Check.due("one with 1", x.count(6), 8);
    }

    // "(out of the SWALLOWER; the others there stay in their order)"
    private static void othersStayInOrder() {
        SwordPeace x = Check.city("swallower 9 0;blade 0 1 50;blade 0 2 1;blade 0 3 50;blade 0 1 1;blade 0 2 50;");
        for (int b = 4; b >= 0; b--) {
            x.swallow(b, 0);
        }
        Check.due("full", x.throat(0, 2), 0);
        x.days(1);
        Check.due("two rest", x.count(7), 10);
        Check.due("their room is left", x.throat(0, 2), 3);
        Check.due("three are in", x.throat(0, 3), 3);
        Check.due("above the lowest", x.toDraw(4), 16 + 4 + 1);
        Check.due("first", x.draw(0), 0);
        Check.due("second", x.draw(0), 2);
        Check.due("last", x.draw(0), 4);
        SwordPeace y = Check.city("swallower 9 0;blade 0 1 50;blade 0 2 1;");
        y.swallow(0, 0);
        y.swallow(1, 0);
        y.days(1);
        Check.due("the top one rests: the next is on top", y.throat(0, 4), 0);
    }

    // "if HICCUPS isn't 0, and the DAY and 1 MOD HICCUPS is 0, the one on TOP is OUT"
    private static void hiccupsByTheDay() {
        for (int every : new int[] {1, 2, 3, 29, 30}) {
            SwordPeace x = Check.city("swallower 9 " + every + ";blade 0 1 99;blade 0 1 99;cools 0;rises 0;");
            x.swallow(0, 0);
            x.swallow(1, 0);
            Check.due("a day before, " + every, x.then(1, every - 1, 1), 1);
            Check.due("on the day, " + every, x.then(1, every, 1), 0);
            Check.due("the other one not yet, " + every, x.then(0, 2 * every - 1, 1), 1);
            Check.due("the other one, " + every, x.then(0, 2 * every, 1), 0);
        }
        SwordPeace y = Check.city("swallower 9 0;blade 0 1 99;cools 0;");
        y.swallow(0, 0);
        Check.due("no hiccups", y.then(0, 60, 1), 1);
        SwordPeace z = Check.city("swallower 9 3;blade 0 1 99;cools 0;rises 0;");
        z.days(2);
        z.swallow(0, 0);
        z.days(1);
        Check.due("by the day, not by how long it is in", z.blade(0, 3), 0);
        z.swallow(0, 0);
        Check.due("not in 2", z.then(0, 2, 1), 1);
        Check.due("in 3", z.then(0, 3, 1), 0);
    }

    private static void hiccupsOfTheTopAlone() {
        SwordPeace x = Check.city("swallower 9 1;swallower 9 2;swallower 9 0;" + "blade 0 1 99;".repeat(6) + "cools 0;rises 0;");
        for (int b = 0; b < 6; b++) {
            x.swallow(b, b / 2);
        }
        x.days(1);
        Check.due("day 0", x.count(5), 2);
        x.days(1);
        Check.due("day 1", x.count(5), 2 + 1 + 8);
        x.days(1);
        Check.due("nobody is in the first one", x.count(5), 2 + 1 + 8);
        x.days(1);
        Check.due("day 3", x.count(5), 2 + 1 + 8 + 4);
        x.days(20);
        Check.due("never the third one's", x.count(6), 16 + 32);
        SwordPeace y = Check.city("swallower 9 1;swallower 9 1;blade 0 1 99;blade 0 1 99;cools 0;rises 0;");
        y.swallow(1, 0);
        y.swallow(0, 1);
        y.days(1);
        Check.due("both on one day", y.count(5), 3);
    }

    private static void hiccupsBehindRest() {
        SwordPeace x = Check.city("swallower 9 1;blade 0 1 99;blade 0 1 2;cools 2;");
        x.swallow(0, 0);
        x.swallow(1, 0);
        x.days(1);
        Check.due("the top one rests", x.blade(1, 3), 2);
        Check.due("so the one below is out", x.blade(0, 3), 0);
        SwordPeace y = Check.city("swallower 9 1;blade 0 1 2;cools 2;");
        y.swallow(0, 0);
        y.days(1);
        Check.due("at rest ahead of the hiccup", y.blade(0, 3), 2);
    }

    // "have as much ANGER as PATIENCE or more"
    private static void fightsFromPatienceOn() {
        for (int patience : new int[] {1, 2, 50, 98, 99}) {
            String town = "feud 0 1;rises 0;patience " + patience + ";blade 0 1 99;blade 1 1 ";
            Check.due("as much, " + patience, Check.city(town + patience + ";").fights(1), 1);
            Check.due("less, " + patience, Check.city(town + (patience - 1) + ";").fights(1), 0);
            String other = "feud 0 1;rises 0;patience " + patience + ";blade 1 1 99;blade 0 1 ";
            Check.due("the other less, " + patience, Check.city(other + (patience - 1) + ";").fights(1), 0);
        }
        Check.due("by what it is when the day is over", Check.city("feud 0 1;rises 1;blade 0 1 49;blade 1 1 49;").peace(), 1);
        Check.due("50 without", Check.city("feud 0 1;rises 0;blade 0 1 50;blade 1 1 50;").fights(1), 1);
        Check.due("49 without", Check.city("feud 0 1;rises 0;blade 0 1 50;blade 1 1 49;").fights(1), 0);
        Check.due("0 never", Check.city("feud 0 1;rises 0;blade 0 1 0;blade 1 1 99;patience 1;").fights(60), 0);
    }

    // "Then of BLADES that are OUT .. two of HOUSES at feud FIGHT"
    private static void fightsNeedTwoOut() {
        SwordPeace x = Check.city("feud 0 1;swallower 9 0;blade 0 1 99;blade 1 1 99;blade 0 1 99;blade 2 1 99;cools 0;rises 0;");
        x.swallow(1, 0);
        Check.due("its foe is in", x.fights(60), 0);
        x.draw(0);
        Check.due("out", x.fights(1), 1);
        x.make(0, 1, false);
        Check.due("made up", x.fights(1), 0);
        Check.due("one house", Check.city("feud 0 1;blade 0 1 99;blade 0 1 99;").fights(60), 0);
        Check.due("one blade", Check.city("feud 0 1;blade 0 1 99;").fights(60), 0);
        Check.due("none", Check.city("feud 0 1;").fights(60), 0);
    }

    // "the first two (by the least BLADE, then the least other one), and so on, until there are no such two"
    private static void firstTwoFight() {
        SwordPeace x = Check.city("feud 0 1;feud 0 2;feud 1 2;blade 0 1 90;blade 0 1 91;blade 1 1 92;blade 2 1 93;blade 1 1 94;rises 0;");
        x.days(1);
        angers("0 with 2, 1 with 3", x, 45, 45, 46, 46, 94);
        SwordPeace y = Check.city("feud 0 1;feud 1 2;blade 0 1 90;blade 2 1 90;blade 1 1 90;blade 1 1 90;blade 1 1 90;rises 0;");
        y.days(1);
        angers("0 with 2, 1 with 3", y, 45, 45, 45, 45, 90);
        Check.due("two", y.count(8), 2);
        SwordPeace z = Check.city("feud 0 1;" + "blade 0 1 90;".repeat(5) + "blade 1 1 90;".repeat(5) + "rises 0;");
        z.days(1);
        Check.due("all ten fight", z.count(8), 5);
        for (int b = 0; b < 10; b++) {
            Check.due("half of " + b, z.blade(b, 2), 45);
        }
        SwordPeace w = Check.city("feud 0 1;feud 2 3;blade 2 1 90;blade 0 1 90;blade 1 1 90;blade 3 1 90;rises 0;");
        w.days(1);
        Check.due("two couples", w.count(8), 2);
    }

    private static void angers(String when, SwordPeace x, int... due) {
        for (int b = 0; b < due.length; b++) {
            Check.due(when + ": anger of " + b, x.blade(b, 2), due[b]);
        }
    }

    // "and didn't FIGHT on this DAY"
    private static void onceADay() {
        SwordPeace x = Check.city("feud 0 1;blade 0 1 99;blade 1 1 99;blade 1 1 99;rises 0;patience 1;");
        x.days(1);
        angers("once", x, 49, 49, 99);
        Check.due("once", x.count(8), 1);
        x.days(1);
        angers("on the next day again, with the least one", x, 24, 24, 99);
        Check.due("until none has any", x.fights(60), 5);
        Check.due("99 49 24 12 6 3 1 0", x.then(0, 60, 0), 0);
        Check.due("the other one never", x.then(2, 60, 0), 99);
    }

    // "ANGER of both becomes half, cut down."
    private static void halfIsCutDown() {
        SwordPeace x = Check.city("feud 0 1;blade 0 1 1;blade 1 1 99;rises 0;patience 1;");
        x.days(1);
        angers("1 and 99", x, 0, 49);
        SwordPeace y = Check.city("feud 0 1;blade 0 1 98;blade 1 1 97;rises 0;patience 97;");
        y.days(1);
        angers("98 and 97", y, 49, 48);
        Check.due("without anger one is still out", x.count(5), 3);
        x.days(20);
        Check.due("and stays so", x.count(5), 3);
    }

    // "The DAY is one more then."
    private static void theDayIsOneMore() {
        SwordPeace x = Check.city("blade 0 1 0;rises day+1;");
        Check.due("day 0", x.count(4), 0);
        Check.due("day 1", x.days(1), 1);
        Check.due("rose by day 0 and 1", x.blade(0, 2), 1);
        Check.due("day 3", x.days(2), 3);
        Check.due("by 2 and 3", x.blade(0, 2), 6);
    }
}
