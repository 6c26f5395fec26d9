/** Part 3 of the terms and promises 15 to 32, sentence by sentence: the farthest day, nothing at all, the least of like ones. */
public final class AskBoundsTest {
    private static final int[] WRONG_HOUSES = {-1, 6, Integer.MIN_VALUE, Integer.MAX_VALUE};
    /** In State.busy() there are BLADES 0 to 4 and SWALLOWERS 0 and 1. */
    private static final int[] WRONG_BLADES = {-1, 5, 10, Integer.MIN_VALUE, Integer.MAX_VALUE};
    private static final int[] WRONG_SWALLOWERS = {-1, 2, 5, Integer.MIN_VALUE, Integer.MAX_VALUE};
    private static final int[] WRONG_DAYS = {-1, 61, Integer.MIN_VALUE, Integer.MAX_VALUE};
    private static final String K33 = "feud 0 3;feud 0 4;feud 0 5;feud 1 3;feud 1 4;feud 1 5;feud 2 3;feud 2 4;feud 2 5;";

    public static void main(String[] args) {
        noSuchBlade();
        noSuchHouseOrSwallower();
        notZeroToSixty();
        anotherWhat();
        whichComesFirst();
        questionsLeaveAll();
        nothingAtAll();
        thenUpTo60();
        peaceFrom1To60();
        fightsUpTo60();
        restsFrom0To60();
        worst();
        takeInByRoom();
        takeInOfNone();
        takeInOfLikeOnes();
        throatsByRoom();
        throatsOfNone();
        throatsOfAsFew();
        toDraw();
        toSwallowWhom();
        toSwallowIfLater();
        delay();
        camps();
        couples();
        grudge();
        foes();
        parts();
        calmUpTo60();
        lacks();
        above();
        hiccup();
        Check.end("AskBoundsTest");
    }

    // "NoSuchElementException: no such BLADE (as everywhere)"
    private static void noSuchBlade() {
        for (int b : WRONG_BLADES) {
            State.raises("then " + b, Check.NO_SUCH, y -> y.then(b, 0, 0));
            State.raises("rests " + b, Check.NO_SUCH, y -> y.rests(b));
            State.raises("toDraw " + b, Check.NO_SUCH, y -> y.toDraw(b));
            State.raises("lacks " + b, Check.NO_SUCH, y -> y.lacks(b));
            State.raises("above " + b, Check.NO_SUCH, y -> y.above(b));
            if (b != SwordPeace.NONE) {
                State.raises("takeIn " + b, Check.NO_SUCH, y -> y.takeIn(b));
            }
        }
        State.raises("takeIn -2", Check.NO_SUCH, y -> y.takeIn(-2));
        SwordPeace ten = Check.city("swallower 9 0;" + "blade 0 1 1;".repeat(10));
        Check.due("then 9", ten.then(9, 60, 1), 0);
        Check.due("rests 9", ten.rests(9), -1);
        Check.due("toDraw 9", ten.toDraw(9), 0);
        Check.due("lacks 9", ten.lacks(9), 0);
        Check.due("above 9", ten.above(9), -1);
        Check.due("takeIn 9", ten.takeIn(9), -1);
    }

    // "no such SWALLOWER (as everywhere)", "no such HOUSE (as everywhere)"
    private static void noSuchHouseOrSwallower() {
        for (int s : WRONG_SWALLOWERS) {
            State.raises("hiccup " + s, Check.NO_SUCH, y -> y.hiccup(s));
        }
        for (int h : WRONG_HOUSES) {
            State.raises("grudge " + h, Check.NO_SUCH, y -> y.grudge(h));
            State.raises("foes of " + h, Check.NO_SUCH, y -> y.foes(h, 0));
            State.raises("foes with " + h, Check.NO_SUCH, y -> y.foes(0, h));
        }
        Check.due("grudge 5", State.busy().grudge(5), 0);
        Check.due("foes 5 5", State.busy().foes(5, 5), 0);
    }

    // "IllegalArgumentException: not 0 to 60."
    private static void notZeroToSixty() {
        for (int days : WRONG_DAYS) {
            State.raises("then in " + days, Check.ILLEGAL, y -> y.then(0, days, 0));
            State.raises("where in " + days, Check.ILLEGAL, y -> y.then(4, days, 1));
            State.raises("fights in " + days, Check.ILLEGAL, y -> y.fights(days));
            State.raises("worst in " + days, Check.ILLEGAL, y -> y.worst(days));
            State.raises("calm in " + days, Check.ILLEGAL, y -> y.calm(days));
        }
    }

    // "NoSuchElementException: also another what.", "NoSuchElementException: another what."
    private static void anotherWhat() {
        for (int what : new int[] {-1, 2, Integer.MIN_VALUE, Integer.MAX_VALUE}) {
            State.raises("then what " + what, Check.NO_SUCH, y -> y.then(0, 0, what));
            State.raises("toSwallow what " + what, Check.NO_SUCH, y -> y.toSwallow(what));
        }
    }

    // Promise 15: "IllegalArgumentException (behind that)"
    private static void whichComesFirst() {
        State.raises("blade, days", Check.NO_SUCH, y -> y.then(5, 61, 0));
        State.raises("what, days", Check.NO_SUCH, y -> y.then(0, 61, 2));
        State.raises("blade, what, days", Check.NO_SUCH, y -> y.then(-1, -1, -1));
    }

    private static void questionsLeaveAll() {
        State.leaves("then", y -> y.then(0, 60, 0) + y.then(0, 60, 1));
        State.leaves("peace", y -> y.peace());
        State.leaves("fights", y -> y.fights(60));
        State.leaves("rests", y -> y.rests(1));
        State.leaves("worst", y -> y.worst(60));
        State.leaves("takeIn", y -> y.takeIn(-1) + y.takeIn(0));
        State.leaves("throats", y -> y.throats());
        State.leaves("toDraw", y -> y.toDraw(1));
        State.leaves("toSwallow", y -> y.toSwallow(0) + y.toSwallow(1));
        State.leaves("camps", y -> y.camps() + y.couples() + y.parts());
        State.leaves("grudge", y -> y.grudge(0) + y.foes(0, 2));
        State.leaves("calm", y -> y.calm(60));
        State.leaves("lacks", y -> y.lacks(4) + y.above(1) + y.hiccup(0));
    }

    private static void nothingAtAll() {
        SwordPeace x = new SwordPeace();
        Check.due("peace", x.peace(), -1);
        Check.due("fights", x.fights(60), 0);
        Check.due("worst", x.worst(60), -1);
        Check.due("takeIn", x.takeIn(-1), 0);
        Check.raises("takeIn 0", Check.NO_SUCH, () -> x.takeIn(0));
        Check.due("throats", x.throats(), 0);
        Check.due("toSwallow", x.toSwallow(0), -1);
        Check.due("delay", x.toSwallow(1), -1);
        Check.due("camps", x.camps(), 0);
        Check.due("couples", x.couples(), 0);
        Check.due("grudge", x.grudge(0), 0);
        Check.due("foes", x.foes(0, 0), 0);
        Check.due("parts", x.parts(), 0);
        Check.due("calm", x.calm(60), 0);
    }

    // "ANGER of a BLADE in so many DAYS (0 to 60); where it is then."
    private static void thenUpTo60() {
        SwordPeace x = Check.city("swallower 9 0;blade 0 1 0;blade 0 1 60;blade 0 1 61;rises 1;cools 1;");
        x.swallow(1, 0);
        x.swallow(2, 0);
        Check.due("in 0 days", x.then(0, 0, 0), 0);
        Check.due("in 1", x.then(0, 1, 0), 1);
        Check.due("in 59", x.then(0, 59, 0), 59);
        Check.due("in 60", x.then(0, 60, 0), 60);
        Check.due("in still", x.then(1, 59, 1), 1);
        Check.due("at rest", x.then(1, 60, 1), 2);
        Check.due("its anger", x.then(1, 60, 0), 0);
        Check.due("one more", x.then(2, 60, 1), 1);
        Check.due("its anger", x.then(2, 60, 0), 1);
        x.days(5);
        Check.due("from now on", x.then(0, 60, 0), 65);
    }

    // "PEACE: in how many DAYS (1 to 60) a FIGHT is first; none."
    private static void peaceFrom1To60() {
        String town = "feud 0 1;patience 99;rises 1;blade 0 1 99;blade 1 1 ";
        Check.due("on the first day", Check.city(town + "98;").peace(), 1);
        Check.due("as much at once", Check.city(town + "99;").peace(), 1);
        Check.due("on the second", Check.city(town + "97;").peace(), 2);
        Check.due("on the 59th", Check.city(town + "40;").peace(), 59);
        Check.due("on the 60th", Check.city(town + "39;").peace(), 60);
        SwordPeace x = Check.city(town + "38;");
        Check.due("on the 61st", x.peace(), -1);
        x.days(1);
        Check.due("a day behind it is the 60th", x.peace(), 60);
        x.days(20);
        x.days(20);
        x.days(20);
        Check.due("it was on the day before", x.count(8), 1);
        Check.due("the next one: 49 rises by 50", x.peace(), 50);
    }

    // "FIGHTS in so many DAYS (0 to 60)."
    private static void fightsUpTo60() {
        SwordPeace x = Check.city("feud 0 1;patience 60;rises 1;blade 0 1 60;blade 1 1 60;");
        Check.due("in 0", x.fights(0), 0);
        Check.due("in 1", x.fights(1), 1);
        Check.due("30 to 59", x.fights(30), 1);
        Check.due("60 again", x.fights(31), 2);
        Check.due("in 60", x.fights(60), 2);
        SwordPeace y = Check.city("feud 0 1;patience 1;rises 99;" + "blade 0 1 9;".repeat(5) + "blade 1 1 9;".repeat(5));
        Check.due("five each day", y.fights(60), 300);
        Check.due("59 days", y.fights(59), 295);
        y.days(20);
        Check.due("so far", y.count(8), 100);
        Check.due("only those to come", y.fights(60), 300);
    }

    // "AT REST: in how many DAYS (0 to 60) a BLADE is AT REST; none."
    private static void restsFrom0To60() {
        SwordPeace x = Check.city("swallower 9 0;blade 0 1 0;blade 0 1 1;blade 0 1 59;blade 0 1 60;blade 0 1 61;blade 0 1 0;cools 1;");
        for (int b = 0; b < 5; b++) {
            x.swallow(b, 0);
        }
        int[] due = {1, 1, 59, 60, -1, -1};
        for (int b = 0; b < 6; b++) {
            Check.due("rests " + b, x.rests(b), due[b]);
        }
        x.days(1);
        int[] then = {0, 0, 58, 59, 60, -1};
        for (int b = 0; b < 6; b++) {
            Check.due("a day behind, rests " + b, x.rests(b), then[b]);
        }
        SwordPeace y = Check.city("swallower 9 9;blade 0 1 9;blade 0 1 10;cools 1;rises 0;");
        y.swallow(0, 0);
        Check.due("just ahead of the hiccup", y.rests(0), 9);
        SwordPeace z = Check.city("swallower 9 9;blade 0 1 10;cools 1;rises 0;");
        z.swallow(0, 0);
        Check.due("out by the hiccup", z.rests(0), -1);
    }

    // "WORST: the HOUSE that has most FIGHTS (of BLADES of its own) .. of like ones the least); none, if none has any."
    private static void worst() {
        SwordPeace x = Check.city("feud 5 4;feud 5 3;blade 5 1 90;blade 4 1 90;blade 5 1 90;blade 3 1 90;rises 0;");
        Check.due("none in 0 days", x.worst(0), -1);
        Check.due("5 has two", x.worst(1), 5);
        Check.due("and in 60", x.worst(60), 5);
        SwordPeace y = Check.city("feud 0 5;feud 1 2;blade 5 1 90;blade 0 1 90;blade 2 1 99;blade 1 1 99;rises 0;patience 90;");
        Check.due("of like ones 0", y.worst(60), 0);
        y.make(0, 5, false);
        Check.due("of like ones 1", y.worst(60), 1);
        y.make(1, 2, false);
        Check.due("none has any", y.worst(60), -1);
        SwordPeace z = Check.city("feud 0 1;feud 2 3;patience 99;rises 1;blade 0 1 99;blade 1 1 39;blade 2 1 98;blade 3 1 98;");
        Check.due("2 and 3 first", z.worst(1), 2);
        Check.due("up to the 59th day", z.worst(59), 2);
        Check.due("2 has two by then", z.fights(60), 3);
        Check.due("so it is worst on the 60th, too", z.worst(60), 2);
        SwordPeace w = Check.city("feud 0 1;patience 99;rises 1;blade 0 1 99;blade 1 1 39;");
        Check.due("59 days", w.worst(59), -1);
        Check.due("60 days", w.worst(60), 0);
    }

    private static void ways(String town, int anger, int... swallowers) {
        SwordPeace x = Check.city(town);
        Check.due("take in " + town, x.takeIn(-1), anger);
        for (int b = 0; b < swallowers.length; b++) {
            Check.due("blade " + b + " of " + town, x.takeIn(b), swallowers[b]);
        }
    }

    // "TO TAKE IN: of all ways in which some BLADES that are OUT go into SWALLOWERS, as there is room"
    private static void takeInByRoom() {
        ways("swallower 9 0;blade 0 9 5;", 5, 0);
        ways("swallower 8 0;blade 0 9 5;", 0, -1);
        ways("swallower 9 0;blade 0 4 5;blade 0 5 6;", 11, 0, 0);
        ways("swallower 8 0;blade 0 4 5;blade 0 5 6;", 6, -1, 0);
        ways("swallower 1 0;swallower 1 0;blade 0 2 99;blade 0 1 1;", 1, -1, 1);
        ways("swallower 99 0;" + "blade 0 10 99;".repeat(9) + "blade 0 9 99;", 990, 0, 0, 0, 0, 0, 0, 0, 0, 0, 0);
        ways("swallower 99 0;" + "blade 0 10 99;".repeat(9) + "blade 0 10 98;", 891, 0, 0, 0, 0, 0, 0, 0, 0, 0, -1);
        ways("swallower 40 0;".repeat(5) + "blade 0 40 9;".repeat(10), 45, 0, 1, 2, 3, 4, -1, -1, -1, -1, -1);
        ways("swallower 40 0;".repeat(5) + "blade 0 20 9;".repeat(10), 90, 0, 0, 1, 1, 2, 2, 3, 3, 4, 4);
    }

    private static void takeInOfNone() {
        ways("", 0);
        ways("swallower 99 0;", 0);
        ways("blade 0 1 99;", 0, -1);
        ways("swallower 99 0;blade 0 1 0;", 0, -1);
        SwordPeace x = State.busy();
        x.swallow(2, 0);
        x.swallow(0, 0);
        Check.due("one is in", x.takeIn(1), -1);
        Check.due("one is at rest", x.takeIn(3), -1);
        Check.due("one finds no room", x.takeIn(4), -1);
        Check.due("so none", x.takeIn(-1), 0);
        x.broth(0, 18);
        Check.due("18 more is too little by none", x.throat(0, 2), 20);
        Check.due("it goes in", x.takeIn(4), 0);
        Check.due("with its anger", x.takeIn(-1), 71);
    }

    // "of like ones, SWALLOWER by SWALLOWER, that by which BLADES that go into it are least as bits"
    private static void takeInOfLikeOnes() {
        ways("swallower 9 0;swallower 9 0;blade 0 9 5;blade 0 9 5;", 10, 0, 1);
        ways("swallower 9 0;swallower 9 0;swallower 9 0;blade 0 9 5;", 5, 2);
        ways("swallower 9 0;swallower 9 0;blade 0 9 5;blade 0 9 5;blade 0 9 5;", 10, 0, 1, -1);
        ways("swallower 9 0;blade 0 9 5;blade 0 4 5;blade 0 5 0;", 5, 0, -1, -1);
        ways("swallower 9 0;blade 0 9 5;blade 0 4 3;blade 0 5 2;", 5, 0, -1, -1);
        ways("swallower 9 0;blade 0 4 3;blade 0 5 2;blade 0 9 5;", 5, 0, 0, -1);
        ways("swallower 9 0;swallower 9 0;blade 0 1 0;blade 0 1 5;blade 0 1 0;", 5, -1, 1, -1);
        ways("swallower 2 0;swallower 2 0;blade 0 1 1;blade 0 1 1;blade 0 1 1;", 3, 0, 1, 1);
    }

    // "THROATS: the fewest SWALLOWERS into whom all BLADES that are OUT would go"
    private static void throatsByRoom() {
        Check.due("just room", Check.city("swallower 9 0;blade 0 4 1;blade 0 5 1;").throats(), 1);
        Check.due("less by one", Check.city("swallower 8 0;blade 0 4 1;blade 0 5 1;").throats(), -1);
        Check.due("more by one", Check.city("swallower 10 0;blade 0 4 1;blade 0 5 1;").throats(), 1);
        Check.due("much more", Check.city("swallower 99 0;swallower 99 0;blade 0 1 1;").throats(), 1);
        Check.due("two", Check.city("swallower 8 0;swallower 1 0;blade 0 8 1;blade 0 1 1;").throats(), 3);
        Check.due("together, but not so", Check.city("swallower 8 0;swallower 2 0;blade 0 5 1;blade 0 5 1;").throats(), -1);
        Check.due("five", Check.city("swallower 40 0;".repeat(5) + "blade 0 20 1;".repeat(10)).throats(), 31);
        Check.due("five are too few", Check.city("swallower 40 0;".repeat(4) + "swallower 39 0;" + "blade 0 20 1;".repeat(10)).throats(), -1);
        Check.due("one for ten", Check.city("swallower 9 0;swallower 10 0;" + "blade 0 1 1;".repeat(10)).throats(), 2);
    }

    private static void throatsOfNone() {
        Check.due("no blades, no swallowers", new SwordPeace().throats(), 0);
        Check.due("no blades", Check.city("swallower 9 0;").throats(), 0);
        Check.due("no swallowers", Check.city("blade 0 1 0;").throats(), -1);
        SwordPeace x = State.busy();
        Check.due("one of 20 lacks room", x.throats(), -1);
        SwordPeace y = Check.city("swallower 9 0;blade 0 9 1;blade 0 9 40;");
        y.swallow(0, 0);
        Check.due("no room is left", y.throats(), -1);
        y.days(1);
        Check.due("now one is at rest", y.throats(), 1);
        y.swallow(1, 0);
        Check.due("all are in or at rest", y.throats(), 0);
    }

    // "of as few the least as bits; none."
    private static void throatsOfAsFew() {
        Check.due("one of three", Check.city("swallower 9 0;swallower 9 0;swallower 9 0;blade 0 9 1;").throats(), 1);
        Check.due("fewer goes ahead of less", Check.city("swallower 5 0;swallower 5 0;swallower 10 0;blade 0 5 1;blade 0 5 1;").throats(), 4);
        Check.due("5 or 6", Check.city("swallower 5 0;swallower 4 0;swallower 5 0;blade 0 5 1;blade 0 5 1;").throats(), 5);
        Check.due("the last one", Check.city("swallower 1 0;".repeat(4) + "swallower 2 0;blade 0 2 1;").throats(), 16);
    }

    // "TO DRAW a BLADE: those that must be DRAWN (itself, too)"; promise 22: "(0: it isn't IN)"
    private static void toDraw() {
        SwordPeace x = Check.city("swallower 10 0;" + "blade 0 1 9;".repeat(9) + "blade 0 1 2;");
        Check.due("out", x.toDraw(0), 0);
        for (int b = 0; b < 10; b++) {
            x.swallow(b, 0);
        }
        Check.due("all ten", x.toDraw(0), 1023);
        Check.due("the last one itself", x.toDraw(9), 512);
        Check.due("two", x.toDraw(8), 768);
        x.days(1);
        Check.due("at rest", x.toDraw(9), 0);
        Check.due("it must be drawn no more", x.toDraw(0), 511);
    }

    // "TO SWALLOW: the BLADE that is OUT by swallowing which now, alone (into the least SWALLOWER with room)"
    private static void toSwallowWhom() {
        String feud = "feud 0 1;rises 0;cools 1;blade 0 5 60;blade 1 6 60;";
        Check.due("of like ones the least", Check.city(feud + "swallower 9 0;").toSwallow(0), 0);
        Check.due("just room for 0", Check.city(feud + "swallower 5 0;").toSwallow(0), 0);
        Check.due("no room", Check.city(feud + "swallower 4 0;").toSwallow(0), -1);
        Check.due("no room: no delay", Check.city(feud + "swallower 4 0;").toSwallow(1), -1);
        Check.due("no swallowers", Check.city(feud).toSwallow(0), -1);
        Check.due("the least with room: the second one", Check.city(feud + "swallower 4 1;swallower 5 3;").toSwallow(1), 3);
        Check.due("the least has room: the first one", Check.city(feud + "swallower 5 2;swallower 6 3;").toSwallow(0), 1);
        Check.due("so its delay", Check.city(feud + "swallower 5 2;swallower 6 3;").toSwallow(1), 3);
        SwordPeace x = Check.city(feud + "swallower 9 0;");
        x.swallow(1, 0);
        Check.due("one that is in is none", x.toSwallow(0), -1);
    }

    // "the first FIGHT is latest, if it is later than without that (no FIGHT is latest ..); none"
    private static void toSwallowIfLater() {
        SwordPeace x = Check.city("feud 0 1;swallower 9 1;rises 0;cools 1;blade 0 1 60;blade 1 1 60;");
        Check.due("out by a hiccup on the same day", x.peace(), 1);
        Check.due("it is not later", x.toSwallow(0), -1);
        Check.due("nor is there a delay", x.toSwallow(1), -1);
        SwordPeace y = Check.city("feud 0 1;swallower 9 2;rises 0;cools 1;blade 0 1 60;blade 1 1 60;");
        Check.due("later by one", y.toSwallow(0), 0);
        Check.due("on the second day", y.toSwallow(1), 2);
        SwordPeace z = Check.city("swallower 9 0;blade 0 1 60;blade 1 1 60;");
        Check.due("no fight without", z.toSwallow(0), -1);
        SwordPeace w = Check.city("feud 0 1;feud 2 3;swallower 9 0;rises 1;cools 1;blade 0 1 60;blade 1 1 60;blade 2 1 40;blade 3 1 45;");
        Check.due("the other two fight on day 10", w.toSwallow(1), 10);
        w.make(2, 3, false);
        Check.due("no fight is latest", w.toSwallow(1), -1);
        Check.due("by the least", w.toSwallow(0), 0);
    }

    // "DELAY: PEACE then."; promise 23: "(1; NONE: there is no FIGHT then, or no such BLADE)"
    private static void delay() {
        String town = "feud 0 1;patience 99;rises 1;cools 0;swallower 1 0;blade 0 1 99;blade 1 2 99;blade 0 2 ";
        Check.due("the 60th day", Check.city(town + "39;").toSwallow(1), 60);
        Check.due("the blade", Check.city(town + "39;").toSwallow(0), 0);
        Check.due("the 61st", Check.city(town + "38;").toSwallow(1), -1);
        Check.due("the blade all the same", Check.city(town + "38;").toSwallow(0), 0);
        Check.due("the second day", Check.city(town + "97;").toSwallow(1), 2);
        Check.due("the first is no delay", Check.city(town + "98;").toSwallow(1), -1);
        Check.due("so none", Check.city(town + "98;").toSwallow(0), -1);
    }

    // "CAMPS: .. none, if it can't be."
    private static void camps() {
        Check.due("no feuds", new SwordPeace().camps(), 0);
        Check.due("one feud of the last houses", Check.city("feud 5 4;").camps(), 16);
        Check.due("three against three", Check.city(K33).camps(), 7);
        SwordPeace x = Check.city(K33);
        x.make(1, 2, true);
        Check.due("with one more none", x.camps(), -1);
        Check.due("three in a ring", Check.city("feud 3 4;feud 4 5;feud 5 3;").camps(), -1);
        Check.due("beside a right part", Check.city("feud 0 1;feud 3 4;feud 4 5;feud 5 3;").camps(), -1);
        Check.due("a ring of six", Check.city("feud 0 1;feud 1 2;feud 2 3;feud 3 4;feud 4 5;feud 5 0;").camps(), 21);
        Check.due("a ring of five", Check.city("feud 0 1;feud 1 2;feud 2 3;feud 3 4;feud 4 0;").camps(), -1);
        Check.due("a path of all six", Check.city("feud 0 5;feud 5 1;feud 1 4;feud 4 2;feud 2 3;").camps(), 7);
        Check.due("three parts", Check.city("feud 5 0;feud 4 1;feud 3 2;").camps(), 7);
        Check.due("the least of each part", Check.city("feud 1 5;feud 4 2;").camps(), 2 + 4);
    }

    // "COUPLES: the most couples of HOUSES at feud that could make up at once, no HOUSE in two."
    private static void couples() {
        Check.due("no feuds", new SwordPeace().couples(), 0);
        Check.due("one", Check.city("feud 4 5;").couples(), 1);
        Check.due("a star", Check.city("feud 0 1;feud 0 2;feud 0 3;feud 0 4;feud 0 5;").couples(), 1);
        Check.due("a ring of five", Check.city("feud 0 1;feud 1 2;feud 2 3;feud 3 4;feud 4 0;").couples(), 2);
        Check.due("a ring of three", Check.city("feud 0 1;feud 1 2;feud 2 0;").couples(), 1);
        Check.due("three against three", Check.city(K33).couples(), 3);
        Check.due("the middle one stays alone", Check.city("feud 0 1;feud 1 2;feud 2 3;").couples(), 2);
        Check.due("two rings of three", Check.city("feud 0 1;feud 1 2;feud 2 0;feud 3 4;feud 4 5;feud 5 3;").couples(), 2);
        Check.due("joined", Check.city("feud 0 1;feud 1 2;feud 2 0;feud 3 4;feud 4 5;feud 5 3;feud 2 3;").couples(), 3);
    }

    private static void grudge() {
        SwordPeace x = Check.city("blade 5 1 99;".repeat(10));
        Check.due("as much as there may be", x.grudge(5), 990);
        Check.due("none", x.grudge(0), 0);
        SwordPeace y = State.busy();
        Check.due("out and in", y.grudge(0), 61 + 71);
        Check.due("in and at rest", y.grudge(1), 58);
    }

    // Promise 27: "(of one and itself: all with which it is)"
    private static void foes() {
        SwordPeace x = Check.city(K33);
        Check.due("0 and itself", x.foes(0, 0), 56);
        Check.due("5 and itself", x.foes(5, 5), 7);
        Check.due("0 and 1", x.foes(0, 1), 56);
        Check.due("0 and 5", x.foes(0, 5), 0);
        x.make(0, 5, false);
        Check.due("one less", x.foes(1, 0), 24);
    }

    private static void parts() {
        Check.due("no feuds", new SwordPeace().parts(), 0);
        Check.due("three", Check.city("feud 5 0;feud 4 1;feud 3 2;").parts(), 3);
        Check.due("two", Check.city("feud 5 0;feud 4 1;").parts(), 2);
        Check.due("one path", Check.city("feud 0 5;feud 5 1;feud 1 4;feud 4 2;feud 2 3;").parts(), 1);
        Check.due("a ring of three and two", Check.city("feud 0 1;feud 1 2;feud 2 0;feud 4 5;").parts(), 2);
        SwordPeace x = Check.city("feud 0 1;feud 2 3;");
        x.make(1, 2, true);
        Check.due("held together", x.parts(), 1);
        x.make(0, 1, false);
        Check.due("one without feuds is in none", x.parts(), 1);
    }

    // Promise 29: "BLADES that are AT REST in so many DAYS (0 to 60) .. as bits"
    private static void calmUpTo60() {
        SwordPeace x = Check.city("swallower 10 0;" + "blade 0 1 0;".repeat(8) + "blade 0 1 60;blade 0 1 61;cools 1;");
        for (int b = 0; b < 10; b++) {
            x.swallow(b, 0);
        }
        Check.due("in 0", x.calm(0), 0);
        Check.due("in 1", x.calm(1), 255);
        Check.due("in 59", x.calm(59), 255);
        Check.due("in 60", x.calm(60), 511);
        x.days(1);
        Check.due("now", x.calm(0), 255);
        Check.due("then", x.calm(60), 1023);
    }

    // Promise 30: "(0: it does); NONE: it isn't OUT, there are no SWALLOWERS."
    private static void lacks() {
        Check.due("no swallowers", Check.city("blade 0 1 1;").lacks(0), -1);
        String town = "blade 0 9 9;blade 0 40 9;swallower 1 0;swallower ";
        Check.due("just room", Check.city(town + "9 0;").lacks(0), 0);
        Check.due("more than room", Check.city(town + "99 0;").lacks(0), 0);
        Check.due("by one", Check.city(town + "8 0;").lacks(0), 1);
        Check.due("39 more", Check.city(town + "1 0;").lacks(1), 39);
        SwordPeace x = Check.city("swallower 40 0;swallower 10 0;blade 0 40 9;blade 0 40 2;blade 0 12 1;");
        x.swallow(0, 0);
        Check.due("it is in", x.lacks(0), -1);
        Check.due("by 30, in the other one", x.lacks(1), 30);
        Check.due("by 2", x.lacks(2), 2);
        x.broth(1, 1);
        Check.due("by 1", x.lacks(2), 1);
        x.broth(1, 1);
        Check.due("now it does", x.lacks(2), 0);
        x.draw(0);
        x.swallow(1, 0);
        Check.due("full", x.lacks(0), 28);
        x.days(1);
        Check.due("it is at rest", x.lacks(1), -1);
        Check.due("so there is room", x.lacks(0), 0);
    }

    // Promise 31: "(0: it is on TOP); NONE: it isn't IN."
    private static void above() {
        SwordPeace x = Check.city("swallower 10 0;swallower 1 0;" + "blade 0 1 9;".repeat(9) + "blade 0 1 2;");
        Check.due("out", x.above(0), -1);
        for (int b = 0; b < 10; b++) {
            x.swallow(b, 0);
        }
        Check.due("nine", x.above(0), 9);
        Check.due("on top", x.above(9), 0);
        x.draw(0);
        x.swallow(9, 1);
        Check.due("alone", x.above(9), 0);
        Check.due("eight", x.above(0), 8);
        x.days(1);
        Check.due("at rest", x.above(9), -1);
    }

    // Promise 32: "In how many DAYS (1 on) .. (the DAY that goes by first is 1); NONE: never."
    private static void hiccup() {
        SwordPeace x = Check.city("swallower 1 0;swallower 1 1;swallower 1 2;swallower 1 29;swallower 1 30;");
        hiccups("day 0", x, -1, 1, 2, 29, 30);
        x.days(1);
        hiccups("day 1", x, -1, 1, 1, 28, 29);
        x.days(1);
        hiccups("day 2", x, -1, 1, 2, 27, 28);
        x.days(20);
        x.days(6);
        hiccups("day 28", x, -1, 1, 2, 1, 2);
        x.days(1);
        hiccups("day 29", x, -1, 1, 1, 29, 1);
        x.days(1);
        hiccups("day 30", x, -1, 1, 2, 28, 30);
        SwordPeace y = Check.city("swallower 1 0;swallower 1 1;swallower 1 27;swallower 1 28;swallower 1 30;");
        for (int i = 0; i < 49; i++) {
            y.days(20);
        }
        y.days(19);
        hiccups("day 999", y, -1, 1, 27, 9, 21);
    }

    private static void hiccups(String when, SwordPeace x, int... due) {
        for (int s = 0; s < due.length; s++) {
            Check.due(when + ": hiccup of " + s, x.hiccup(s), due[s]);
        }
    }
}
