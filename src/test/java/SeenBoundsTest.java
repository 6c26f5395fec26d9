/** Part 4 of the terms and promises 33 to 40, sentence by sentence: what is SEEN, games, summers, images. */
public final class SeenBoundsTest {
    private static final int[] WRONG_HOUSES = {-1, 6, Integer.MIN_VALUE, Integer.MAX_VALUE};
    /** In State.busy() there are BLADES 0 to 4 and SWALLOWERS 0 and 1. */
    private static final int[] WRONG_BLADES = {-1, 5, 10, Integer.MIN_VALUE, Integer.MAX_VALUE};
    private static final int SEEN = 2;

    public static void main(String[] args) {
        seeUpTo8();
        seeFrom0To30And99();
        seeNoSuchBladeAhead();
        forget();
        wrongOfNothing();
        wrongIsAnotherAnger();
        wrongFrom0To99();
        wrongFirst();
        wrongAllSeen();
        wrongOnTheLastDay();
        wrongWhat();
        lookMostUnlike();
        lookNone();
        lookIn3Days();
        gameNeedsAFeud();
        gameWhichComesFirst();
        gameOfNone();
        gameCouples();
        gameOf10Days();
        gameByRoom();
        summerWrong();
        summerOf0To60();
        summerDraws();
        summerAnger99();
        summerOfNone();
        seedsWrap();
        status();
        imageNone();
        imageInPlace();
        imageKeepsAll();
        imageAndCity();
        questionsLeaveAll();
        Check.end("SeenBoundsTest");
    }

    // "SEEN (at most 8)"; promise 33: "SEEN: how much is. NONE (STATUS 2): there are 8"
    private static void seeUpTo8() {
        SwordPeace x = Check.city("blade 0 1 9;");
        for (int i = 1; i <= 8; i++) {
            Check.due("seen", x.see(0, 0, 9), i);
        }
        int[] before = State.of(x);
        Check.due("a ninth", x.see(0, 0, 9), -1);
        before[State.STATUS + SEEN]++;
        State.same("a ninth leaves all", State.of(x), before);
        Check.due("a wrong ninth", x.see(0, 31, 9), -1);
        Check.due("refused", x.count(14), 2);
        Check.due("eight", x.count(10), 8);
        Check.due("no ninth is in the way", x.wrong(2), 1);
        SwordPeace y = Check.city("blade 0 1 9;");
        for (int i = 0; i < 7; i++) {
            y.see(0, 0, 9);
        }
        y.see(0, 0, 8);
        Check.due("the eighth counts", y.wrong(2), 0);
        SwordPeace z = Check.city("blade 0 1 9;");
        for (int i = 0; i < 8; i++) {
            z.see(0, 0, 9);
        }
        z.see(0, 0, 8);
        Check.due("the ninth doesn't", z.wrong(2), 1);
    }

    // "has so much ANGER (0 to 99) in so many DAYS (0 to 30)"; promise 33: "not 0 to 30, not 0 to 99"
    private static void seeFrom0To30And99() {
        int[][] wrong = {{-1, 0}, {31, 0}, {0, -1}, {0, 100}, {30, 100}, {31, 99}, {-1, -1}, {Integer.MIN_VALUE, 0},
            {Integer.MAX_VALUE, 0}, {0, Integer.MIN_VALUE}, {0, Integer.MAX_VALUE}};
        for (int[] one : wrong) {
            State.refuses("see " + one[0] + " " + one[1], y -> y.see(0, one[0], one[1]), -1, SEEN);
        }
        SwordPeace x = State.busy();
        Check.due("0, 0", x.see(0, 0, 0), 3);
        Check.due("30, 99", x.see(4, 30, 99), 4);
        Check.due("of one at rest", x.see(3, 30, 0), 5);
        Check.due("no act", x.count(9), 7);
        Check.due("refused as before", x.count(14), 1);
    }

    // Promise 33: "NoSuchElementException (ahead): no such BLADE."
    private static void seeNoSuchBladeAhead() {
        for (int b : WRONG_BLADES) {
            State.raises("see " + b, Check.NO_SUCH, y -> y.see(b, 0, 0));
            State.raises("see wrong " + b, Check.NO_SUCH, y -> y.see(b, 31, 100));
        }
        SwordPeace x = Check.city("blade 0 1 9;");
        for (int i = 0; i < 8; i++) {
            x.see(0, 0, 9);
        }
        Check.raises("ahead of the ninth", Check.NO_SUCH, () -> x.see(1, 0, 0));
        Check.due("not refused", x.count(14), 0);
        Check.raises("no blades", Check.NO_SUCH, () -> new SwordPeace().see(0, 0, 0));
    }

    // Promise 36: "All that is SEEN is forgotten."
    private static void forget() {
        SwordPeace x = State.busy();
        SwordPeace twin = State.busy();
        x.forget();
        Check.due("none", x.count(10), 0);
        Check.due("all may be so", x.wrong(0), 5 * 99);
        Check.due("so without", x.wrong(2), 1);
        for (int what = 0; what < 15; what++) {
            if (what != 10) {
                Check.due("forgotten, count " + what, x.count(what), twin.count(what));
            }
        }
        x.forget();
        Check.due("none still", x.count(10), 0);
        for (int i = 1; i <= 8; i++) {
            Check.due("eight again", x.see(0, i, i), i);
        }
        Check.due("the image has it", x.restore(), true);
        Check.due("one was seen then", x.count(10), 1);
        SwordPeace y = new SwordPeace();
        y.forget();
        Check.due("nothing to forget", y.count(10), 0);
    }

    // "TOLD WRONG: BLADES and ANGER (0 to 99, another one than it has) by one of which now all SEEN would be so"
    private static void wrongOfNothing() {
        SwordPeace none = new SwordPeace();
        Check.due("no blades", none.wrong(0), 0);
        Check.due("no first", none.wrong(1), -1);
        Check.due("so without", none.wrong(2), 1);
        SwordPeace ten = Check.city("blade 0 1 0;".repeat(10));
        Check.due("all, if nothing is seen", ten.wrong(0), 990);
        Check.due("0 it has, so 1", ten.wrong(1), 1);
        Check.due("1 it has, so 0", Check.city("blade 0 1 1;").wrong(1), 0);
    }

    private static void wrongIsAnotherAnger() {
        SwordPeace x = Check.city("blade 0 1 40;rises 0;");
        x.see(0, 0, 40);
        Check.due("it is so", x.wrong(2), 1);
        Check.due("but by none other", x.wrong(0), 0);
        Check.due("no first", x.wrong(1), -1);
        x.forget();
        x.see(0, 0, 41);
        Check.due("it isn't", x.wrong(2), 0);
        Check.due("but by one", x.wrong(0), 1);
        Check.due("41", x.wrong(1), 41);
    }

    private static void wrongFrom0To99() {
        SwordPeace x = Check.city("blade 0 1 40;rises 0;");
        x.see(0, 0, 0);
        Check.due("0", x.wrong(1), 0);
        x.forget();
        x.see(0, 0, 99);
        Check.due("99", x.wrong(1), 99);
        SwordPeace y = Check.city("blade 0 1 40;rises 10;");
        y.see(0, 1, 99);
        Check.due("89 to 99", y.wrong(0), 11);
        Check.due("89", y.wrong(1), 89);
        y.see(0, 0, 98);
        Check.due("98 alone", y.wrong(0), 1);
        SwordPeace z = Check.city("blade 0 1 40;rises 10;");
        z.see(0, 1, 9);
        Check.due("none from below 0", z.wrong(0), 0);
        Check.due("10 by 0", seen("blade 0 1 40;rises 10;", 0, 1, 10).wrong(1), 0);
    }

    private static SwordPeace seen(String town, int blade, int days, int anger) {
        SwordPeace x = Check.city(town);
        x.see(blade, days, anger);
        return x;
    }

    // "the first (100 by the BLADE, and ANGER)"
    private static void wrongFirst() {
        String ten = "blade 0 1 5;".repeat(10) + "rises 0;";
        Check.due("blade 9 with 99", seen(ten, 9, 0, 99).wrong(1), 999);
        Check.due("blade 9 with 0", seen(ten, 9, 0, 0).wrong(1), 900);
        Check.due("blade 0 with 99", seen(ten, 0, 0, 99).wrong(1), 99);
        Check.due("any other one, if it is so", seen(ten, 0, 0, 5).wrong(1), 100);
        Check.due("of the others", seen(ten, 0, 0, 5).wrong(0), 9 * 99);
    }

    private static void wrongAllSeen() {
        SwordPeace x = Check.city("blade 0 1 40;blade 0 1 50;rises 1;");
        x.see(0, 0, 41);
        x.see(1, 0, 50);
        Check.due("one is wrong", x.wrong(1), 41);
        x.see(1, 1, 52);
        Check.due("not two at once", x.wrong(0), 0);
        x.forget();
        x.see(0, 0, 41);
        x.see(0, 0, 42);
        Check.due("never both", x.wrong(0), 0);
        Check.due("nor without", x.wrong(2), 0);
    }

    private static void wrongOnTheLastDay() {
        String town = "blade 0 1 40;rises 1;";
        Check.due("in 30 days", seen(town, 0, 30, 70).wrong(2), 1);
        Check.due("in 29 days", seen(town, 0, 29, 69).wrong(2), 1);
        Check.due("in 30 days not", seen(town, 0, 30, 71).wrong(2), 0);
        Check.due("41 would be so", seen(town, 0, 30, 71).wrong(1), 41);
        Check.due("now", seen(town, 0, 0, 40).wrong(2), 1);
        Check.due("not tomorrow", seen(town, 0, 1, 40).wrong(2), 0);
        SwordPeace x = seen(town, 0, 30, 70);
        for (int i = 0; i < 49; i++) {
            x.days(20);
        }
        x.days(19);
        x.forget();
        x.see(0, 30, 99);
        Check.due("behind day 999, too", x.wrong(2), 1);
        Check.due("69 to 98", x.wrong(0), 30);
    }

    // "NoSuchElementException: another what."
    private static void wrongWhat() {
        for (int what : new int[] {-1, 3, Integer.MIN_VALUE, Integer.MAX_VALUE}) {
            State.raises("wrong " + what, Check.NO_SUCH, y -> y.wrong(what));
        }
        for (int what : new int[] {-1, 2, Integer.MIN_VALUE, Integer.MAX_VALUE}) {
            State.raises("look " + what, Check.NO_SUCH, y -> y.look(what));
        }
    }

    // "LOOK NEXT: the BLADE whose ANGER in 3 DAYS would by these be most unlike (of like ones the least)"
    private static void lookMostUnlike() {
        SwordPeace x = Check.city("blade 0 1 40;blade 0 1 50;rises 0;");
        Check.due("of like ones the least", x.look(0), 0);
        Check.due("all hundred: its own by the others", x.look(1), 100);
        SwordPeace one = Check.city("blade 0 1 40;rises 0;");
        Check.due("alone", one.look(0), 0);
        Check.due("99 without its own", one.look(1), 99);
        one.see(0, 0, 41);
        Check.due("one", one.look(1), 1);
        x.see(0, 0, 40);
        Check.due("blade 1 by 99 others", x.look(0), 1);
        Check.due("99 unlike ones", x.look(1), 99);
        x.see(1, 0, 51);
        Check.due("both have one", x.look(1), 1);
        Check.due("the least", x.look(0), 0);
    }

    // "none without any"; promise 35: "(what 0; NONE), how many (1; 0: none)"
    private static void lookNone() {
        Check.due("no blades", new SwordPeace().look(0), -1);
        Check.due("no blades, how many", new SwordPeace().look(1), 0);
        SwordPeace x = Check.city("blade 0 1 40;rises 0;");
        x.see(0, 0, 40);
        Check.due("as it is, but by none other", x.look(0), -1);
        Check.due("none", x.look(1), 0);
        x.see(0, 0, 41);
        Check.due("never", x.look(0), -1);
        Check.due("none", x.look(1), 0);
    }

    private static void lookIn3Days() {
        Check.due("in 3 days 95 to 99 are one", Check.city("blade 0 1 99;rises 1;").look(1), 97);
        Check.due("0 to 98 rise to 60 to 99", Check.city("blade 0 1 99;rises 20;").look(1), 40);
        Check.due("0 to 98 rise to 96 to 99", Check.city("blade 0 1 99;rises 32;").look(1), 4);
        Check.due("all have 99", Check.city("blade 0 1 99;rises 33;").look(1), 1);
        SwordPeace x = Check.city("swallower 1 0;blade 0 1 99;cools 33;");
        x.swallow(0, 0);
        Check.due("all have none", x.look(1), 1);
        SwordPeace y = Check.city("blade 0 1 99;rises 10;");
        y.see(0, 10, 99);
        Check.due("from now on, not from the day that was seen", y.look(1), 70);
        y.see(0, 0, 20);
        Check.due("20 alone", y.look(1), 1);
        SwordPeace z = Check.city("blade 0 1 99;rises (day<3)*10;");
        z.see(0, 10, 99);
        Check.due("69 to 98", z.wrong(0), 30);
        Check.due("all have 99 in 3 days", z.look(1), 1);
    }

    // Promise 37: "IllegalArgumentException (behind that): they aren't at feud."
    private static void gameNeedsAFeud() {
        State.raises("no feud", Check.ILLEGAL, y -> y.game(0, 2, 0));
        State.raises("one house", Check.ILLEGAL, y -> y.game(0, 0, 1));
        State.raises("the last house", Check.ILLEGAL, y -> y.game(5, 5, 0));
        SwordPeace x = State.busy();
        x.make(0, 1, false);
        Check.raises("made up", Check.ILLEGAL, () -> x.game(0, 1, 0));
        x.undo();
        Check.due("undone", x.game(0, 1, 0) >= 0, true);
    }

    private static void gameWhichComesFirst() {
        for (int h : WRONG_HOUSES) {
            State.raises("game of " + h, Check.NO_SUCH, y -> y.game(h, 0, 0));
            State.raises("game with " + h, Check.NO_SUCH, y -> y.game(0, h, 1));
        }
        for (int what : new int[] {-1, 2, Integer.MIN_VALUE, Integer.MAX_VALUE}) {
            State.raises("game what " + what, Check.NO_SUCH, y -> y.game(0, 1, what));
            State.raises("no feud, what " + what, Check.NO_SUCH, y -> y.game(0, 2, what));
            State.raises("one house, what " + what, Check.NO_SUCH, y -> y.game(3, 3, what));
        }
    }

    private static void game(String when, String town, int many, int first) {
        SwordPeace x = Check.city("feud 0 1;" + town);
        Check.due(when + ": how many", x.game(0, 1, 0), many);
        Check.due(when + ": the first", x.game(0, 1, 1), first);
        Check.due(when + ": how many, asked again", x.game(0, 1, 0), many);
    }

    private static void gameOfNone() {
        game("no blades", "", 4, 0);
        game("no swallowers", "blade 0 1 99;blade 1 1 99;", 4, 0);
        game("no room", "swallower 1 0;blade 0 2 99;blade 1 2 99;", 4, 0);
        game("blades of another house", "swallower 1 0;blade 2 1 99;", 4, 0);
        game("none rests", "feud 1 2;feud 0 2;swallower 13 3;swallower 10 2;blade 2 9 15;blade 0 7 66;blade 2 5 48;"
                + "blade 1 7 2;patience 24;cools within*7;", 0, -1);
    }

    // "A couple RESTS, if neither loses less by the other choice: how many; the first (10 by the first one's ..)"
    private static void gameCouples() {
        game("giving costs 1", "swallower 9 0;blade 0 1 9;blade 1 1 9;cools 0;rises 0;", 1, 0);
        game("giving costs nothing, if it rests", "swallower 9 0;blade 0 1 9;blade 1 1 9;cools 1;rises 0;", 4, 0);
        game("giving costs 1 for the second", "swallower 9 0;blade 0 1 10;blade 1 1 11;cools 1;rises 0;", 2, 0);
        game("and for the first", "swallower 9 0;blade 0 1 11;blade 1 1 10;cools 1;rises 0;", 2, 0);
        game("one gives", "swallower 9 0;blade 0 1 90;blade 1 1 90;cools 0;rises 0;", 2, 1);
        game("only the first one finds room", "swallower 1 0;blade 0 1 90;blade 1 2 90;cools 0;rises 0;", 2, 10);
        game("only the second one does", "swallower 1 0;blade 0 2 90;blade 1 1 90;cools 0;rises 0;", 2, 1);
        SwordPeace x = Check.city("feud 0 1;swallower 1 0;blade 0 1 90;blade 1 2 90;cools 0;rises 0;");
        Check.due("the other way round", x.game(1, 0, 1), 1);
    }

    // "5 for each FIGHT of a BLADE of its own in 10 DAYS, and 1 for each BLADE that is IN at the end of them"
    private static void gameOf10Days() {
        String town = "swallower 1 0;blade 0 1 99;blade 1 2 ";
        game("a fight on the 10th day", town + "89;patience 99;rises 1;cools 0;", 2, 10);
        game("a fight on the 11th", town + "88;patience 99;rises 1;cools 0;", 2, 0);
        game("in at the end of ten", "swallower 1 11;blade 0 1 9;blade 1 2 9;rises 0;cools 0;", 2, 0);
        game("out at the end of ten", "swallower 1 10;blade 0 1 9;blade 1 2 9;rises 0;cools 0;", 4, 0);
        game("one fight and five in", "swallower 5 0;" + "blade 0 1 90;".repeat(1) + "blade 0 1 1;".repeat(4)
                + "blade 1 40 90;rises 0;cools 0;", 4, 0);
        game("one fight and six in", "swallower 6 0;blade 0 1 90;" + "blade 0 1 1;".repeat(5) + "blade 1 40 90;rises 0;cools 0;", 2, 0);
        game("one fight and four in", "swallower 4 0;blade 0 1 90;" + "blade 0 1 1;".repeat(3) + "blade 1 40 90;rises 0;cools 0;", 2, 10);
    }

    // "each to the least SWALLOWER with room (none: it stays OUT)"; "in order of BLADES (of both HOUSES)"
    private static void gameByRoom() {
        game("the least one has hiccups on the 10th day", "swallower 1 10;swallower 1 0;blade 0 1 9;blade 1 9 9;rises 0;cools 0;", 4, 0);
        game("it has no room", "swallower 1 10;swallower 2 0;blade 0 2 9;blade 1 9 9;rises 0;cools 0;", 2, 0);
        game("the least blade takes the room", "swallower 1 0;blade 1 1 90;blade 0 1 90;rises 0;cools 0;", 2, 1);
        SwordPeace x = Check.city("feud 0 1;swallower 2 0;blade 0 2 9;blade 0 1 9;blade 1 9 9;rises 0;cools 0;");
        x.swallow(0, 0);
        Check.due("one that is in is not given", x.game(0, 1, 0), 4);
        Check.due("so both are alike", x.game(0, 1, 1), 0);
    }

    // Promise 38: "NoSuchElementException: another what. IllegalArgumentException (behind that): n."
    private static void summerWrong() {
        for (int what : new int[] {-1, 3, Integer.MIN_VALUE, Integer.MAX_VALUE}) {
            State.raises("summer what " + what, Check.NO_SUCH, y -> y.summer(1, 1, what));
            State.raises("n, what " + what, Check.NO_SUCH, y -> y.summer(1, 61, what));
        }
        for (int n : new int[] {-1, 61, Integer.MIN_VALUE, Integer.MAX_VALUE}) {
            for (int what = 0; what < 3; what++) {
                int asked = what;
                State.raises("summer of " + n + " days, " + what, Check.ILLEGAL, y -> y.summer(1, n, asked));
            }
        }
    }

    // "n DAYS (0 to 60) from now on"
    private static void summerOf0To60() {
        SwordPeace x = State.busy();
        Check.due("no fights in 0", x.summer(7, 0, 0), 0);
        Check.due("one is at rest now", x.summer(7, 0, 1), 1);
        Check.due("anger now", x.summer(7, 0, 2), 61 + 58 + 41 + 71);
        SwordPeace y = Check.city("feud 0 1;patience 1;rises 99;" + "blade 0 1 9;".repeat(5) + "blade 1 1 9;".repeat(5));
        Check.due("60 days", y.summer(3, 60, 0), 300);
        Check.due("59 days", y.summer(3, 59, 0), 295);
        Check.due("ahead of nothing drawn matters", y.summer(3, 60, 2), 490);
        SwordPeace z = Check.city("swallower 10 0;" + "blade 0 1 0;".repeat(10));
        for (int b = 0; b < 10; b++) {
            z.swallow(b, 0);
        }
        int quiet = seed(2, 6);
        Check.due("ten rest: how many", z.summer(quiet, 1, 1), 10);
        Check.due("none yet", z.summer(quiet, 0, 1), 0);
    }

    /** The least seed whose first draw of 7 lies between two numbers. */
    private static int seed(int least, int most) {
        for (int seed = 0; seed < 10000; seed++) {
            long draw = draw(next(seed), 7);
            if (draw >= least && draw <= most) {
                return seed;
            }
        }
        throw new IllegalStateException();
    }

    private static long next(long seed) {
        return (seed * 1103515245L + 12345L) & 0xffffffffL;
    }

    private static long draw(long seed, int many) {
        return (seed / 65536 % 32768) % many;
    }

    // "ahead of each a DRAW of 7: 0 a DRAW of BLADES .., 1 somebody laughs: a DRAW of SWALLOWERS"
    private static void summerDraws() {
        String town = "swallower 9 0;swallower 9 0;blade 0 1 10;blade 0 1 20;blade 0 1 30;rises 0;cools 0;";
        for (int seed = -40; seed < 120; seed++) {
            SwordPeace x = Check.city(town);
            x.swallow(0, 1);
            x.swallow(2, 1);
            long first = next(seed & 0xffffffffL);
            long second = next(first);
            int anger = 60;
            if (draw(first, 7) == 0 && draw(second, 3) == 1) {
                anger += 20;
            }
            Check.due("one day by seed " + seed, x.summer(seed, 1, 2), anger);
        }
        SwordPeace y = Check.city("swallower 9 0;blade 0 1 10;blade 0 1 50;rises 7;cools 3;");
        y.swallow(0, 0);
        y.swallow(1, 0);
        int laugh = seed(1, 1);
        Check.due("the top one is out ahead of the day: it rises", y.summer(laugh, 1, 2), 7 + 57);
        Check.due("else both cool", y.summer(seed(2, 6), 1, 2), 7 + 47);
        y.draw(0);
        y.draw(0);
        Check.due("nobody is in: nothing", y.summer(laugh, 1, 2), 17 + 57);
    }

    // "if that one is OUT, ANGER is 20 more (99 at most)"
    private static void summerAnger99() {
        int angry = seed(0, 0);
        int[] angers = {0, 78, 79, 80, 99};
        int[] due = {20, 98, 99, 99, 99};
        for (int i = 0; i < angers.length; i++) {
            SwordPeace x = Check.city("swallower 9 0;blade 0 1 " + angers[i] + ";rises 0;cools 0;");
            Check.due("20 more than " + angers[i], x.summer(angry, 1, 2), due[i]);
            x.swallow(0, 0);
            Check.due("in it stays at " + angers[i], x.summer(angry, 1, 2), angers[i]);
        }
        SwordPeace y = Check.city("feud 0 1;blade 0 1 30;blade 1 1 50;rises 0;");
        int least = angry;
        while (draw(next(next(least)), 2) != 0 || draw(next(least), 7) != 0) {
            least++;
        }
        Check.due("it fights on that day", y.summer(least, 1, 0), 1);
        Check.due("25 and 25", y.summer(least, 1, 2), 50);
    }

    // "(Of none nothing is drawn.)"
    private static void summerOfNone() {
        int found = 0;
        for (int seed = 0; seed < 400; seed++) {
            long first = next(seed);
            if (draw(first, 7) != 1) {
                continue;
            }
            found++;
            SwordPeace x = Check.city("blade 0 1 10;rises 0;");
            int due = draw(next(first), 7) == 0 ? 30 : 10;
            Check.due("without swallowers the next draw is the second day's, seed " + seed, x.summer(seed, 2, 2), due);
        }
        Check.due("some seeds laugh first", found > 30, true);
        SwordPeace y = Check.city("swallower 9 0;");
        for (int what = 0; what < 3; what++) {
            Check.due("no blades", y.summer(seed(0, 0), 60, what), 0);
            Check.due("none at all", new SwordPeace().summer(seed(1, 1), 60, what), 0);
        }
    }

    // "A seed becomes itself times 1103515245 and 12345 (an int that wraps); a DRAW of n is its bits 16 to 30 MOD n"
    private static void seedsWrap() {
        int[] seeds = {0, 1, -1, Integer.MAX_VALUE, Integer.MIN_VALUE, Integer.MAX_VALUE - 1, 65535, 65536, -65536, 123456789, -123456789};
        for (int seed : seeds) {
            for (int days : new int[] {1, 2, 30, 60}) {
                SwordPeace x = Check.city("blade 0 1 0;blade 0 1 0;blade 0 1 0;rises 0;");
                int[] anger = new int[3];
                long now = seed & 0xffffffffL;
                for (int day = 0; day < days; day++) {
                    now = next(now);
                    if (draw(now, 7) == 0) {
                        now = next(now);
                        int b = (int) draw(now, 3);
                        anger[b] = Math.min(99, anger[b] + 20);
                    }
                }
                Check.due("seed " + seed + " for " + days, x.summer(seed, days, 2), anger[0] + anger[1] + anger[2]);
            }
        }
        SwordPeace y = Check.city("blade 0 1 0;blade 0 1 0;rises 0;");
        Check.due("a seed that differs by the sign's bit alone draws the same", y.summer(5, 60, 2), y.summer(5 ^ Integer.MIN_VALUE, 60, 2));
    }

    // "STATUS: how many calls were refused: 0 TEXTS with a FAULT, 1 ACTS, 2 what is SEEN."
    private static void status() {
        SwordPeace x = Check.city("swallower 9 0;blade 0 1 1;");
        x.feed(0, 0, 0, 0, 0);
        x.city(0);
        Check.due("a right text is none", x.count(12), 0);
        Check.tell(x, "?");
        Check.tell(x, "?");
        x.days(0);
        x.make(0, 0, true);
        x.days(21);
        Check.due("texts", x.count(12), 2);
        Check.due("acts", x.count(13), 3);
        Check.due("seen", x.count(14), 0);
        Check.raises("no refusal", Check.NO_SUCH, () -> x.see(0, 31, 0));
        Check.raises("no refusal", Check.NO_SUCH, () -> x.draw(0));
        Check.raises("no refusal", Check.ILLEGAL, () -> x.city(1));
        x.undo();
        x.restore();
        Check.due("texts still", x.count(12), 2);
        Check.due("acts still", x.count(13), 3);
        Check.due("seen still", x.count(14), 0);
        for (int i = 0; i < 300; i++) {
            x.days(0);
        }
        Check.due("as many as there are", x.count(13), 303);
    }

    // Promise 40: "False: there is none."
    private static void imageNone() {
        SwordPeace x = Check.city("swallower 9 0;blade 0 1 1;");
        x.days(1);
        int[] before = State.of(x);
        Check.due("none", x.restore(), false);
        State.same("a restore of none", State.of(x), before);
        Check.due("an act is still there", x.undo(), 0);
    }

    // Promise 39: "AN IMAGE is kept, in place of another one."
    private static void imageInPlace() {
        SwordPeace x = Check.city("swallower 9 0;blade 0 1 50;");
        x.image();
        x.days(1);
        x.image();
        x.days(1);
        x.image();
        x.days(1);
        for (int i = 0; i < 3; i++) {
            Check.due("restored", x.restore(), true);
            Check.due("the latest one", x.count(4), 2);
            Check.due("with two acts", x.count(9), 2);
            x.days(5);
        }
        Check.due("restored once more", x.restore(), true);
        Check.due("undone behind it", x.undo(), 1);
        Check.due("the image is as it was", x.restore(), true);
        Check.due("two acts", x.count(9), 2);
        SwordPeace y = new SwordPeace();
        y.image();
        y.days(9);
        Check.due("of a new object, too", y.restore(), true);
        Check.due("day 0", y.count(4), 0);
    }

    // "AN IMAGE keeps all that DAYS and ACTS change, ACTS that are kept, what is SEEN, STATUS."
    private static void imageKeepsAll() {
        SwordPeace x = State.busy();
        x.image();
        int[] kept = State.of(x);
        x.days(20);
        x.draw(0);
        x.swallow(2, 1);
        x.broth(0, 20);
        x.make(0, 1, false);
        x.make(4, 5, true);
        x.days(0);
        x.forget();
        x.see(0, 1, 1);
        x.see(1, 0, 33);
        x.see(0, 99, 1);
        Check.due("a fault", x.city(9), 1);
        Check.due("restored", x.restore(), true);
        kept[State.TAPE] = 0;
        kept[kept.length - State.FROM_FAULT] = 9;
        State.same("restored", State.of(x), kept);
        SwordPeace twin = State.busy();
        for (int acts = twin.count(9); acts > 0; acts--) {
            Check.due("acts", x.undo(), twin.undo());
            Check.due("day", x.count(4), twin.count(4));
            Check.due("out", x.count(5), twin.count(5));
            Check.due("room", x.throat(1, 0), twin.throat(1, 0));
        }
        fortyActsInAnImage();
    }

    private static void fortyActsInAnImage() {
        SwordPeace x = new SwordPeace();
        for (int i = 0; i < 53; i++) {
            x.days(1);
        }
        x.image();
        for (int i = 0; i < 45; i++) {
            x.days(2);
        }
        x.restore();
        Check.due("day 53", x.count(4), 53);
        for (int i = 39; i >= 0; i--) {
            Check.due("left", x.undo(), i);
            Check.due("the day", x.count(4), 13 + i);
        }
        Check.due("no more", x.undo(), -1);
    }

    // Promise 3: "ACTS, what is SEEN, the image are gone."
    private static void imageAndCity() {
        SwordPeace x = State.busy();
        Check.due("a fault", x.city(9), 1);
        Check.due("leaves the image", x.restore(), true);
        Check.due("STATUS is the image's", x.count(12), 0);
        x.city(0);
        Check.due("a city doesn't", x.restore(), false);
        x.image();
        Check.raises("no city", Check.ILLEGAL, () -> x.city(1));
        Check.due("leaves the image", x.restore(), true);
    }

    private static void questionsLeaveAll() {
        State.leaves("wrong", y -> y.wrong(0) + y.wrong(1) + y.wrong(2));
        State.leaves("look", y -> y.look(0) + y.look(1));
        State.leaves("game", y -> y.game(0, 1, 0) + y.game(1, 2, 1));
        State.leaves("summer", y -> y.summer(1, 60, 0) + y.summer(2, 60, 1) + y.summer(3, 60, 2));
        State.leaves("fault", y -> y.fault());
    }
}
