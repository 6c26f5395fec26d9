/** Promises 37 and 38: a game of two houses, summers by a seed. */
public final class GameTest {
    public static void main(String[] args) {
        games();
        order();
        wrongGames();
        summers();
        wrongSummers();
        Check.end("GameTest");
    }

    private static void game(String town, int many, int first) {
        SwordPeace x = Check.city(town);
        Check.due("couples that rest in " + town, x.game(0, 1, 0), many);
        Check.due("the first one in " + town, x.game(0, 1, 1), first);
        Check.due("as many from the other side", x.game(1, 0, 0), many);
    }

    private static void games() {
        String angry = "feud 0 1;blade 0 1 90;blade 1 1 90;rises 99;cools 1;patience 90;";
        game("swallower 99 0;" + angry, 2, 1);
        game("swallower 99 1;" + angry, 1, 11);
        game(angry, 4, 0);
        game("feud 0 1;swallower 99 0;blade 0 1 9;blade 1 1 9;cools 1;rises 0;", 4, 0);
        game("feud 0 1;swallower 99 0;blade 0 1 90;blade 1 1 90;cools 0;rises 0;patience 91;", 1, 0);
        game("feud 0 1;", 4, 0);
        game("feud 0 1;feud 1 2;feud 0 2;swallower 13 3;swallower 10 2;blade 2 9 15;blade 0 7 66;blade 2 5 48;"
                + "blade 1 7 2;patience 24;cools within*7;", 0, -1);
        String one = "feud 0 1;swallower 39 0;blade 1 40 90;blade 0 1 90;rises 0;cools 0;";
        game(one + "blade 0 1 1;".repeat(5), 2, 0);
        game(one + "blade 0 1 1;".repeat(4), 4, 0);
        game(one + "blade 0 1 1;".repeat(3), 2, 10);
        SwordPeace x = Check.city("feud 0 1;swallower 1 0;blade 0 2 90;blade 1 1 90;rises 99;cools 1;patience 90;");
        Check.due("only the other one finds room", x.game(0, 1, 0), 2);
        Check.due("0 and 1", x.game(0, 1, 1), 1);
        Check.due("1 and 0", x.game(1, 0, 1), 10);
    }

    /** Blades of both houses go in by their own order, so the least blade takes the only room. */
    private static void order() {
        SwordPeace x = Check.city("feud 0 1;swallower 9 0;blade 1 9 90;blade 0 9 10;rises 0;cools 0;patience 91;");
        Check.due("giving costs 1 where there is room", x.game(0, 1, 0), 1);
        Check.due("so none gives", x.game(0, 1, 1), 0);
        SwordPeace y = Check.city("feud 0 1;swallower 9 0;blade 1 9 90;blade 0 9 90;rises 9;cools 0;patience 90;");
        Check.due("one gives, as the least blade takes the room if both do", y.game(0, 1, 0), 2);
        Check.due("the first house not, the other one", y.game(0, 1, 1), 1);
    }

    private static void wrongGames() {
        SwordPeace x = Check.city("feud 0 1;");
        Check.raises("house 6", Check.NO_SUCH, () -> x.game(6, 0, 0));
        Check.raises("house -1", Check.NO_SUCH, () -> x.game(-1, 0, 0));
        Check.raises("other 6", Check.NO_SUCH, () -> x.game(0, 6, 0));
        Check.raises("what 2, no feud", Check.NO_SUCH, () -> x.game(0, 2, 2));
        Check.raises("what -1", Check.NO_SUCH, () -> x.game(0, 1, -1));
        Check.raises("no feud", Check.ILLEGAL, () -> x.game(0, 2, 0));
        Check.raises("one house", Check.ILLEGAL, () -> x.game(0, 0, 1));
    }

    private static void summers() {
        SwordPeace x = Check.city("feud 0 1;swallower 9 0;swallower 9 0;blade 0 1 50;blade 1 1 40;blade 1 1 45;rises 0;cools 5;");
        Check.due("no days", x.summer(10, 0, 2), 135);
        Check.due("seed 10 angers blade 2: it fights", x.summer(10, 1, 0), 1);
        Check.due("25, 40, 32", x.summer(10, 1, 2), 97);
        Check.due("seed 1 does nothing on the first day", x.summer(1, 1, 2), 135);
        x.swallow(2, 0);
        Check.due("one that is in gets no angrier", x.summer(10, 1, 2), 130);
        x.draw(0);
        x.swallow(2, 1);
        Check.due("seed -17: laughing in swallower 1", x.summer(-17, 1, 2), 135);
        Check.due("it isn't so here", x.summer(1, 1, 2), 130);
        Check.due("no one rests", x.summer(1, 1, 1), 0);
        SwordPeace y = Check.city("swallower 9 0;blade 0 1 1;blade 0 1 2;blade 0 1 95;rises 0;");
        y.swallow(0, 0);
        y.swallow(1, 0);
        Check.due("two rest", y.summer(1, 1, 1), 2);
        Check.due("99 at most", y.summer(10, 1, 2), 99);
        SwordPeace z = Check.city("blade 0 1 1;blade 0 1 2;rises 0;");
        Check.due("617: laughing draws of none, so the next draw is the second day's", z.summer(617, 2, 2), 23);
        Check.due("no blades", new SwordPeace().summer(10, 60, 2), 0);
    }

    private static void wrongSummers() {
        SwordPeace x = Check.city("blade 0 1 1;");
        Check.raises("what 3", Check.NO_SUCH, () -> x.summer(1, 1, 3));
        Check.raises("what -1, n 61", Check.NO_SUCH, () -> x.summer(1, 61, -1));
        Check.raises("n 61", Check.ILLEGAL, () -> x.summer(1, 61, 0));
        Check.raises("n -1", Check.ILLEGAL, () -> x.summer(1, -1, 2));
        Check.due("n 60", x.summer(Integer.MIN_VALUE, 60, 0), 0);
    }
}
