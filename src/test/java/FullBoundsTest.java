/** As much as there may be, all at once: ten BLADES, five SWALLOWERS, all FEUDS; and what the last one of each does. */
public final class FullBoundsTest {
    private static final String FEUDS = "feud 0 1;feud 0 2;feud 0 3;feud 0 4;feud 0 5;feud 1 2;feud 1 3;feud 1 4;feud 1 5;";
    private static final String K33 = "feud 0 3;feud 0 4;feud 0 5;feud 1 3;feud 1 4;feud 1 5;feud 2 3;feud 2 4;feud 2 5;";
    private static final int ALL = 1023;

    public static void main(String[] args) {
        twoInEach();
        theFifthSwallower();
        fifthHasHiccups();
        theTenthBlade();
        tenInOne();
        fiveAreFull();
        ninetyNineEach();
        feudsOfAFullTown();
        fifteenFeudsOfAFullTown();
        lookAtTen();
        Check.end("FullBoundsTest");
    }

    private static SwordPeace twoInEachOfFive() {
        SwordPeace x = Check.city("swallower 10 0;".repeat(5) + "blade 0 1 5;".repeat(10) + "cools 1;rises 0;");
        for (int b = 0; b < 10; b++) {
            Check.due("swallow " + b, x.swallow(b, b / 2), 9 - b % 2);
        }
        return x;
    }

    // "SWALLOWERS 0, 1 .. (at most 5)", "BLADES 0, 1 .. (at most 10)": one IN the fifth is IN as in any other one
    private static void twoInEach() {
        SwordPeace x = twoInEachOfFive();
        for (int b = 0; b < 10; b++) {
            int lower = 1 - b % 2;
            Check.due("in " + b, x.blade(b, 3), 1);
            Check.due("in whom " + b, x.blade(b, 4), b / 2);
            Check.due("cools " + b, x.blade(b, 6), 1);
            Check.due("above " + b, x.above(b), lower);
            Check.due("to draw " + b, x.toDraw(b), lower == 1 ? 3 << b : 1 << b);
            Check.due("four days " + b, x.then(b, 4, 1), 1);
            Check.due("five days " + b, x.then(b, 5, 1), 2);
            Check.due("rests " + b, x.rests(b), 5);
            Check.due("lacks " + b, x.lacks(b), -1);
        }
        for (int s = 0; s < 5; s++) {
            Check.due("left " + s, x.throat(s, 2), 8);
            Check.due("two in " + s, x.throat(s, 3), 2);
            Check.due("top of " + s, x.throat(s, 4), 2 * s + 1);
        }
        Check.due("calm in 4", x.calm(4), 0);
        Check.due("calm in 5", x.calm(5), ALL);
    }

    private static void theFifthSwallower() {
        SwordPeace x = twoInEachOfFive();
        Check.due("drawn", x.draw(4), 9);
        Check.due("out", x.count(5), 512);
        Check.due("drawn too", x.draw(4), 8);
        Check.due("none is in", x.draw(4), -1);
        Check.due("undone", x.undo(), 11);
        Check.due("undone", x.undo(), 10);
        Check.due("all are in", x.count(6), ALL);
        x.days(4);
        Check.due("all are in still", x.count(6), ALL);
        x.days(1);
        Check.due("none is in", x.count(6), 0);
        Check.due("none is out", x.count(5), 0);
        Check.due("all are at rest", x.count(7), ALL);
        Check.due("nobody is in the fifth", x.throat(4, 4), -1);
        Check.due("all is left there", x.throat(4, 2), 10);
    }

    private static void fifthHasHiccups() {
        SwordPeace x = Check.city("swallower 9 0;".repeat(4) + "swallower 9 2;" + "blade 0 1 9;".repeat(10) + "cools 1;");
        x.swallow(9, 4);
        x.days(1);
        Check.due("in", x.blade(9, 3), 1);
        x.days(1);
        Check.due("out", x.blade(9, 3), 0);
        Check.due("in how many days again", x.hiccup(4), 2);
    }

    private static void theTenthBlade() {
        String eight = "feud 0 1;rises 0;cools 0;swallower 1 0;" + "blade 2 1 99;".repeat(8);
        SwordPeace x = Check.city(eight + "blade 0 1 60;blade 1 1 60;");
        Check.due("foes", x.blade(9, 5), 1);
        Check.due("peace", x.peace(), 1);
        Check.due("worst", x.worst(1), 0);
        Check.due("the ninth is swallowed", x.toSwallow(0), 8);
        Check.due("then none fight", x.toSwallow(1), -1);
        SwordPeace y = Check.city(eight + "blade 0 2 60;blade 1 1 60;");
        Check.due("the tenth is swallowed", y.toSwallow(0), 9);
        Check.due("the other one gives", y.game(0, 1, 1), 1);
        Check.due("a day", x.days(1), 1);
        Check.due("both fought", x.count(8), 1);
        Check.due("half", x.blade(9, 2), 30);
        Check.due("half of the ninth", x.blade(8, 2), 30);
    }

    private static void tenInOne() {
        for (String rule : new String[] {"within", "above"}) {
            SwordPeace x = Check.city("swallower 10 0;" + "blade 0 1 99;".repeat(10) + "cools " + rule + ";");
            for (int b = 0; b < 10; b++) {
                Check.due("left", x.swallow(b, 0), 9 - b);
            }
            for (int b = 0; b < 10; b++) {
                Check.due(rule + " of " + b, x.blade(b, 6), rule.equals("within") ? 9 : 9 - b);
            }
        }
    }

    /** BLADES 0 to 4 are too long for anybody, 5 to 9 fill the five. */
    private static void fiveAreFull() {
        SwordPeace x = Check.city(FEUDS + "swallower 1 0;".repeat(5) + "blade 0 40 90;blade 1 40 90;" + "blade 0 2 9;".repeat(3)
                + "blade 2 1 9;".repeat(5) + "rises 0;cools 0;");
        for (int s = 0; s < 5; s++) {
            Check.due("full", x.swallow(5 + s, s), 0);
        }
        Check.due("lacks 40", x.lacks(0), 40);
        Check.due("lacks 2", x.lacks(4), 2);
        Check.due("one is in", x.lacks(9), -1);
        Check.due("none to swallow", x.toSwallow(0), -1);
        Check.due("no delay", x.toSwallow(1), -1);
        Check.due("nothing to take in", x.takeIn(-1), 0);
        Check.due("no throats", x.throats(), -1);
        Check.due("all couples rest", x.game(0, 1, 0), 4);
        Check.due("the first", x.game(0, 1, 1), 0);
        Check.due("no room", x.swallow(2, 4), -1);
        x.broth(4, 1);
        Check.due("lacks 39", x.lacks(0), 39);
        Check.due("lacks 1", x.lacks(4), 1);
    }

    private static void ninetyNineEach() {
        SwordPeace x = Check.city("swallower 99 0;".repeat(5) + "blade 5 1 99;".repeat(10) + "rises 0;cools 0;");
        Check.due("out", x.summer(1, 0, 2), 990);
        Check.due("in sixty days", x.summer(1, 60, 2), 990);
        for (int b = 0; b < 10; b++) {
            x.swallow(b, 4 - b / 2);
        }
        Check.due("in", x.summer(1, 0, 2), 990);
        Check.due("of one house", x.grudge(5), 990);
        Check.due("of another one", x.grudge(0), 0);
    }

    private static String fullTown(String feuds) {
        StringBuilder text = new StringBuilder(feuds);
        for (int i = 0; i < 10; i++) {
            text.append("blade ").append(i % 6).append(" 1 9;");
        }
        return text + "swallower 99 30;".repeat(5);
    }

    private static void feudsOfAFullTown() {
        SwordPeace x = Check.city(fullTown(K33));
        Check.due("nine", x.count(0), 9);
        Check.due("camps", x.camps(), 7);
        Check.due("parts", x.parts(), 1);
        Check.due("couples", x.couples(), 3);
        Check.due("foes", x.foes(4, 5), 7);
        SwordPeace y = Check.city(fullTown("feud 5 4;feud 2 0;"));
        Check.due("two", y.count(0), 2);
        Check.due("camps of two", y.camps(), 16 + 1);
        Check.due("parts of two", y.parts(), 2);
        Check.due("couples of two", y.couples(), 2);
        SwordPeace z = Check.city(fullTown(""));
        Check.due("no feuds", z.count(0) + z.camps() + z.parts() + z.couples(), 0);
    }

    // "a FEUD is made up, or is there anew (at most 15 are there, all couples)"
    private static void fifteenFeudsOfAFullTown() {
        SwordPeace x = Check.city(fullTown(FEUDS));
        for (int h = 2; h < 6; h++) {
            for (int other = h + 1; other < 6; other++) {
                Check.due("anew", x.make(h, other, true), true);
            }
        }
        Check.due("fifteen", x.count(0), 15);
        Check.due("camps", x.camps(), -1);
        Check.due("parts", x.parts(), 1);
        Check.due("couples", x.couples(), 3);
        Check.due("foes of two", x.foes(0, 5), 30);
        Check.due("foes of the last", x.foes(5, 5), 31);
        for (int b = 0; b < 10; b++) {
            Check.due("foes of " + b, x.blade(b, 5), b % 6 < 4 ? 8 : 9);
        }
        Check.due("no sixteenth", x.make(4, 5, true), false);
    }

    private static void lookAtTen() {
        SwordPeace x = Check.city("blade 0 1 0;".repeat(10) + "rises 0;");
        Check.due("all are alike", x.look(0), 0);
        Check.due("all angers", x.look(1), 100);
        for (int b = 0; b < 8; b++) {
            x.see(b, 0, 0);
        }
        Check.due("eight are known", x.look(0), 8);
        Check.due("of the ninth all angers", x.look(1), 100);
        SwordPeace y = Check.city("blade 0 1 0;".repeat(9) + "blade 0 2 0;rises (length<2)*99;");
        Check.due("the tenth alone is unlike", y.look(0), 9);
        Check.due("all its angers", y.look(1), 100);
        Check.due("all may be wrong", y.wrong(0), 990);
    }
}
