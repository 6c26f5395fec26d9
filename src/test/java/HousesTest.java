/** Promises 24 to 28: camps, couples, grudges, foes that two have, parts. */
public final class HousesTest {
    public static void main(String[] args) {
        graph("", 0, 0, 0);
        graph("feud 2 4;", 4, 1, 1);
        graph("feud 0 1;feud 1 2;", 5, 1, 1);
        graph("feud 0 1;feud 1 2;feud 2 0;", -1, 1, 1);
        graph("feud 0 1;feud 1 2;feud 2 3;feud 3 0;", 5, 2, 1);
        graph("feud 0 5;feud 1 4;feud 2 3;", 7, 3, 3);
        graph("feud 5 3;feud 3 4;feud 0 1;", 1 + 8, 2, 2);
        graph("feud 5 0;feud 5 1;feud 5 2;feud 5 3;feud 5 4;", 31, 1, 1);
        graph("feud 0 1;feud 1 2;feud 2 3;feud 3 4;feud 4 0;", -1, 2, 1);
        graph("feud 0 1;feud 2 3;feud 3 4;feud 4 2;", -1, 2, 2);
        graph("feud 1 2;feud 2 3;feud 3 4;feud 4 5;", 2 + 8 + 32, 2, 1);
        graph("feud 0 3;feud 0 4;feud 1 3;feud 1 5;feud 2 4;feud 2 5;", 7, 3, 1);
        all();
        grudges();
        foes();
        Check.end("HousesTest");
    }

    private static void graph(String feuds, int camps, int couples, int parts) {
        SwordPeace x = Check.city(feuds);
        Check.due("camps of " + feuds, x.camps(), camps);
        Check.due("couples of " + feuds, x.couples(), couples);
        Check.due("parts of " + feuds, x.parts(), parts);
    }

    private static void all() {
        SwordPeace x = new SwordPeace();
        for (int a = 0; a < 6; a++) {
            for (int b = 0; b < a; b++) {
                x.make(a, b, true);
            }
        }
        Check.due("camps of all", x.camps(), -1);
        Check.due("couples of all", x.couples(), 3);
        Check.due("parts of all", x.parts(), 1);
        Check.due("foes of 0 and 1", x.foes(0, 1), 60);
        Check.due("foes of 5", x.foes(5, 5), 31);
        for (int b = 1; b < 6; b++) {
            x.make(0, b, false);
        }
        Check.due("couples of five", x.couples(), 2);
        Check.due("foes of none", x.foes(0, 1), 0);
    }

    private static void grudges() {
        SwordPeace x = Check.city("swallower 9 0;blade 1 1 20;blade 2 1 9;blade 1 1 7;blade 1 1 3;");
        Check.due("grudge 1", x.grudge(1), 30);
        Check.due("grudge 2", x.grudge(2), 9);
        Check.due("grudge 0", x.grudge(0), 0);
        x.swallow(2, 0);
        x.days(1);
        Check.due("of all that are in, too", x.grudge(1), 28);
        Check.raises("grudge 6", Check.NO_SUCH, () -> x.grudge(6));
        Check.raises("grudge -1", Check.NO_SUCH, () -> x.grudge(-1));
    }

    private static void foes() {
        SwordPeace x = Check.city("feud 0 1;feud 1 2;feud 0 3;feud 2 3;feud 0 4;");
        Check.due("of 0 and 2", x.foes(0, 2), 10);
        Check.due("of 2 and 0", x.foes(2, 0), 10);
        Check.due("of 0 and itself", x.foes(0, 0), 26);
        Check.due("of 0 and 1", x.foes(0, 1), 0);
        Check.due("of 5", x.foes(5, 0), 0);
        Check.raises("foes 6 0", Check.NO_SUCH, () -> x.foes(6, 0));
        Check.raises("foes 0 6", Check.NO_SUCH, () -> x.foes(0, 6));
        Check.raises("foes -1 0", Check.NO_SUCH, () -> x.foes(-1, 0));
    }
}
