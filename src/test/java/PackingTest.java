/** Promises 20 and 21: the most anger that can be taken in, the fewest throats for all. */
public final class PackingTest {
    public static void main(String[] args) {
        nothing();
        mostAnger();
        likeOnes();
        zeroAnger();
        whoIsIn();
        throats();
        large();
        Check.end("PackingTest");
    }

    private static void ways(String town, int anger, int... swallowers) {
        SwordPeace x = Check.city(town);
        Check.due("take in " + town, x.takeIn(SwordPeace.NONE), anger);
        for (int b = 0; b < swallowers.length; b++) {
            Check.due("blade " + b + " of " + town, x.takeIn(b), swallowers[b]);
        }
    }

    private static void nothing() {
        ways("", 0);
        ways("swallower 9 0;", 0);
        ways("blade 0 9 9;", 0, -1);
        ways("swallower 8 0;blade 0 9 9;", 0, -1);
        SwordPeace x = Check.city("swallower 9 0;blade 0 9 9;");
        Check.raises("takeIn 1", Check.NO_SUCH, () -> x.takeIn(1));
        Check.raises("takeIn -2", Check.NO_SUCH, () -> x.takeIn(-2));
    }

    private static void mostAnger() {
        ways("swallower 10 0;blade 0 10 50;blade 0 5 30;blade 0 5 30;", 60, -1, 0, 0);
        ways("swallower 10 0;swallower 6 0;blade 0 6 9;blade 0 5 30;blade 0 5 30;", 69, 1, 0, 0);
        ways("swallower 30 0;swallower 10 3;blade 0 20 60;blade 1 10 55;blade 2 12 40;blade 1 8 5;", 120, 0, 0, -1, 1);
    }

    /** The first swallower's set is least as bits, then the second one's. */
    private static void likeOnes() {
        ways("swallower 9 0;blade 0 9 5;blade 0 9 5;", 5, 0, -1);
        ways("swallower 9 0;swallower 9 0;blade 0 9 5;", 5, 1);
        ways("swallower 9 0;swallower 9 0;blade 0 4 5;blade 0 4 5;blade 0 4 5;", 15, 0, 1, 1);
        ways("swallower 9 0;swallower 5 0;blade 0 4 5;blade 0 4 5;blade 0 4 5;", 15, 0, 0, 1);
        ways("swallower 9 0;swallower 99 0;blade 0 4 5;blade 0 4 5;", 10, 1, 1);
        ways("swallower 5 0;swallower 5 0;swallower 5 0;blade 0 5 7;blade 0 5 7;", 14, 1, 2);
    }

    private static void zeroAnger() {
        ways("swallower 99 0;blade 0 1 0;blade 0 1 3;blade 0 1 0;", 3, -1, 0, -1);
    }

    private static void whoIsIn() {
        SwordPeace x = Check.city("swallower 10 0;swallower 10 0;blade 0 6 50;blade 0 6 40;blade 0 4 10;");
        x.swallow(0, 0);
        Check.due("the others", x.takeIn(-1), 50);
        Check.due("one that is in", x.takeIn(0), -1);
        Check.due("one", x.takeIn(1), 1);
        Check.due("into what is left", x.takeIn(2), 1);
        Check.due("throats for two", x.throats(), 2);
        x.swallow(1, 1);
        Check.due("the last one", x.takeIn(-1), 10);
        Check.due("into the last as the first one's set is least", x.takeIn(2), 1);
        Check.due("but the least throat", x.throats(), 1);
        x.swallow(2, 1);
        Check.due("none is out", x.takeIn(-1), 0);
        Check.due("no throat is needed", x.throats(), 0);
    }

    private static void throats() {
        Check.due("none out", Check.city("swallower 9 0;").throats(), 0);
        Check.due("none at all", Check.city("blade 0 1 1;").throats(), -1);
        Check.due("one", Check.city("swallower 9 0;swallower 10 0;blade 0 5 1;blade 0 5 1;").throats(), 2);
        Check.due("the least one", Check.city("swallower 10 0;swallower 10 0;blade 0 5 1;blade 0 5 1;").throats(), 1);
        Check.due("two of three", Check.city("swallower 4 0;swallower 5 0;swallower 5 0;blade 0 5 1;blade 0 5 1;").throats(), 6);
        Check.due("the least two", Check.city("swallower 5 0;swallower 4 0;swallower 5 0;swallower 5 0;blade 0 5 1;blade 0 5 1;").throats(), 5);
        Check.due("room together is not enough", Check.city("swallower 7 0;swallower 7 0;blade 0 4 1;blade 0 4 1;blade 0 4 1;").throats(), -1);
        Check.due("all five", Check.city("swallower 9 0;".repeat(5) + "blade 0 9 1;".repeat(5)).throats(), 31);
        Check.due("one too many", Check.city("swallower 9 0;".repeat(5) + "blade 0 9 1;".repeat(6)).throats(), -1);
        Check.due("no anger counts too", Check.city("swallower 9 0;blade 0 9 0;").throats(), 1);
    }

    private static void large() {
        String town = "swallower 30 0;swallower 30 0;swallower 30 0;swallower 30 0;swallower 30 0;"
                + "blade 0 13 9;blade 0 17 9;blade 0 14 9;blade 0 16 9;blade 0 11 9;blade 0 19 9;"
                + "blade 0 12 9;blade 0 18 9;blade 0 15 9;blade 0 15 9;";
        SwordPeace x = Check.city(town);
        Check.due("all fit just so", x.takeIn(-1), 90);
        Check.due("in five", x.throats(), 31);
        Check.due("13 and 17: the least set", x.takeIn(0), 0);
        Check.due("with it", x.takeIn(1), 0);
        Check.due("14 and 16", x.takeIn(2), 1);
        Check.due("11 and 19", x.takeIn(5), 2);
        Check.due("12 and 18", x.takeIn(6), 3);
        Check.due("15 and 15", x.takeIn(9), 4);
    }
}
