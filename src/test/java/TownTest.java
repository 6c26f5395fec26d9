/** Promises 5 to 14, 22, 30 to 32: what is now, days, acts, what is undone. */
public final class TownTest {
    private static final String TOWN = "feud 0 1;feud 1 2;swallower 30 0;swallower 10 3;blade 0 20 60;"
            + "blade 1 10 55;blade 2 12 40;blade 1 8 5;patience 50;";

    public static void main(String[] args) {
        counts();
        blades();
        throats();
        feuds();
        aDay();
        coolingAndRest();
        hiccups();
        fights();
        refusedDays();
        swallowing();
        drawing();
        broth();
        making();
        undoing();
        fortyActs();
        drawFirst();
        lacking();
        nextHiccup();
        Check.end("TownTest");
    }

    private static void counts() {
        SwordPeace x = Check.city(TOWN);
        int[] due = {2, 2, 4, 50, 0, 15, 0, 0, 0, 0, 0, 0, 0, 0, 0};
        for (int what = 0; what < due.length; what++) {
            Check.due("count " + what, x.count(what), due[what]);
        }
        Check.raises("count 15", Check.NO_SUCH, () -> x.count(15));
        Check.raises("count -1", Check.NO_SUCH, () -> x.count(-1));
        x.swallow(1, 0);
        Check.due("out", x.count(5), 13);
        Check.due("in", x.count(6), 2);
    }

    private static void blades() {
        SwordPeace x = Check.city(TOWN);
        int[] due = {0, 20, 60, 0, -1, 2, 2};
        for (int what = 0; what < due.length; what++) {
            Check.due("blade 0, " + what, x.blade(0, what), due[what]);
        }
        x.swallow(1, 0);
        x.swallow(0, 0);
        int[] in = {0, 20, 60, 1, 0, 1, 3};
        for (int what = 0; what < in.length; what++) {
            Check.due("in, blade 0, " + what, x.blade(0, what), in[what]);
        }
        Check.raises("blade 4", Check.NO_SUCH, () -> x.blade(4, 0));
        Check.raises("blade -1", Check.NO_SUCH, () -> x.blade(-1, 0));
        Check.raises("blade what 7", Check.NO_SUCH, () -> x.blade(0, 7));
        Check.raises("blade what -1", Check.NO_SUCH, () -> x.blade(0, -1));
        SwordPeace y = Check.city("feud 0 1;swallower 9 0;blade 0 1 0;blade 1 1 0;");
        y.swallow(0, 0);
        y.swallow(1, 0);
        Check.due("no anger, but not yet at rest", y.blade(0, 3), 1);
        y.days(1);
        int[] rest = {0, 1, 0, 2, -1, 0, 0};
        for (int what = 0; what < rest.length; what++) {
            Check.due("at rest, blade 0, " + what, y.blade(0, what), rest[what]);
        }
        Check.due("both at rest", y.count(7), 3);
    }

    private static void throats() {
        SwordPeace x = Check.city(TOWN);
        int[] due = {10, 3, 10, 0, -1};
        for (int what = 0; what < due.length; what++) {
            Check.due("throat 1, " + what, x.throat(1, what), due[what]);
        }
        x.swallow(1, 0);
        x.swallow(0, 0);
        int[] full = {30, 0, 0, 2, 0};
        for (int what = 0; what < full.length; what++) {
            Check.due("throat 0, " + what, x.throat(0, what), full[what]);
        }
        Check.raises("throat 2", Check.NO_SUCH, () -> x.throat(2, 0));
        Check.raises("throat -1", Check.NO_SUCH, () -> x.throat(-1, 0));
        Check.raises("throat what 5", Check.NO_SUCH, () -> x.throat(0, 5));
        Check.raises("throat what -1", Check.NO_SUCH, () -> x.throat(0, -1));
    }

    private static void feuds() {
        SwordPeace x = Check.city(TOWN);
        Check.due("feud 0 1", x.feud(0, 1), true);
        Check.due("feud 1 0", x.feud(1, 0), true);
        Check.due("feud 0 2", x.feud(0, 2), false);
        Check.due("feud 1 1", x.feud(1, 1), false);
        Check.due("feud 5 5", x.feud(5, 5), false);
        Check.raises("feud 6 0", Check.NO_SUCH, () -> x.feud(6, 0) ? 1 : 0);
        Check.raises("feud 0 6", Check.NO_SUCH, () -> x.feud(0, 6) ? 1 : 0);
        Check.raises("feud -1 0", Check.NO_SUCH, () -> x.feud(-1, 0) ? 1 : 0);
    }

    /** All change as they are when the day begins. */
    private static void aDay() {
        SwordPeace x = Check.city("feud 0 1;blade 0 1 10;blade 1 2 20;blade 1 3 98;rises anger/10+length+day;");
        Check.due("day", x.days(1), 1);
        Check.due("10 + 1 + 1", x.blade(0, 2), 12);
        Check.due("20 + 2 + 2", x.blade(1, 2), 24);
        Check.due("99 at most", x.blade(2, 2), 99);
        Check.due("another day", x.days(1), 2);
        Check.due("12 + 1 + 1 + 1", x.blade(0, 2), 15);
        Check.due("24 + 2 + 2 + 1", x.blade(1, 2), 29);
        SwordPeace y = Check.city("feud 0 1;blade 0 1 10;blade 1 2 20;blade 1 3 30;blade 2 1 40;");
        y.days(2);
        Check.due("two foes, two days", y.blade(0, 2), 14);
        Check.due("one foe, two days", y.blade(1, 2), 22);
        Check.due("no foe", y.blade(3, 2), 40);
    }

    private static void coolingAndRest() {
        SwordPeace x = Check.city("swallower 99 0;blade 0 1 90;blade 0 1 21;blade 0 1 80;cools within*10+above;");
        x.swallow(0, 0);
        x.swallow(1, 0);
        x.swallow(2, 0);
        Check.due("lowest cools by", x.blade(0, 6), 22);
        Check.due("middle cools by", x.blade(1, 6), 21);
        Check.due("top cools by", x.blade(2, 6), 20);
        x.days(1);
        Check.due("middle is at rest", x.blade(1, 3), 2);
        Check.due("in no swallower", x.blade(1, 4), -1);
        Check.due("its anger", x.blade(1, 2), 0);
        Check.due("lowest", x.blade(0, 2), 68);
        Check.due("one above it", x.above(0), 1);
        Check.due("top stays", x.throat(0, 4), 2);
        Check.due("two within", x.throat(0, 3), 2);
        Check.due("room of one is free", x.throat(0, 2), 97);
        Check.due("lowest cools now by", x.blade(0, 6), 11);
        Check.due("at rest for ever", x.swallow(1, 0), -1);
        Check.due("above none at rest", x.above(1), -1);
        SwordPeace y = Check.city("feud 0 1;swallower 99 0;blade 0 1 50;blade 1 1 50;blade 1 1 2;blade 1 1 30;");
        y.swallow(0, 0);
        y.swallow(1, 0);
        y.swallow(2, 0);
        y.days(1);
        Check.due("without a rule 2 and foes", y.blade(0, 2), 46);
        Check.due("one foe", y.blade(1, 2), 47);
        Check.due("no anger left", y.count(7), 4);
        Check.due("none out with the last one", y.blade(3, 2), 30);
        SwordPeace z = Check.city("swallower 9 0;blade 0 1 5;cools 0-3;");
        z.swallow(0, 0);
        z.days(20);
        Check.due("a rule below 0 cools by none", z.blade(0, 2), 5);
    }

    private static void hiccups() {
        SwordPeace x = Check.city("swallower 99 2;blade 0 1 50;blade 0 1 60;cools 1;rises 3;");
        x.swallow(1, 0);
        x.swallow(0, 0);
        x.days(1);
        Check.due("first day: none", x.count(6), 3);
        x.days(1);
        Check.due("second day: the top one", x.count(5), 1);
        Check.due("it cooled on that day", x.blade(0, 2), 48);
        x.days(1);
        Check.due("then it rises", x.blade(0, 2), 51);
        x.days(1);
        Check.due("fourth day: the other one", x.count(5), 3);
        Check.due("no act undone but four days and two", x.count(9), 6);
        SwordPeace y = Check.city("swallower 9 1;blade 0 1 1;blade 0 1 9;");
        y.swallow(1, 0);
        y.swallow(0, 0);
        y.days(1);
        Check.due("rest comes ahead of hiccups", y.count(7), 1);
        Check.due("so the next one is out", y.blade(1, 3), 0);
        SwordPeace z = Check.city("feud 0 1;swallower 9 1;blade 0 1 60;blade 1 1 60;cools 1;rises 0;");
        z.swallow(0, 0);
        z.days(1);
        Check.due("out by a hiccup, it fights on that day", z.count(8), 1);
        Check.due("59 halved", z.blade(0, 2), 29);
        Check.due("60 halved", z.blade(1, 2), 30);
    }

    private static void fights() {
        SwordPeace x = Check.city("feud 0 1;blade 0 1 80;blade 0 1 81;blade 1 1 82;blade 1 1 83;rises 0;patience 80;");
        x.days(1);
        Check.due("two fights", x.count(8), 2);
        int[] due = {40, 40, 41, 41};
        for (int b = 0; b < 4; b++) {
            Check.due("half of " + b, x.blade(b, 2), due[b]);
        }
        SwordPeace y = Check.city("feud 0 1;feud 0 2;blade 1 1 80;blade 2 1 90;blade 0 1 80;blade 0 1 79;rises 0;patience 80;");
        y.days(1);
        Check.due("the least blade, then the least other one", y.count(8), 1);
        Check.due("it fought", y.blade(0, 2), 40);
        Check.due("it found none", y.blade(1, 2), 90);
        Check.due("its foe", y.blade(2, 2), 40);
        Check.due("too patient", y.blade(3, 2), 79);
        y.days(1);
        Check.due("nor on the next day", y.count(8), 1);
        SwordPeace z = Check.city("feud 0 1;blade 0 1 50;blade 1 1 50;rises 0;");
        z.days(1);
        Check.due("as much as patience is enough", z.count(8), 1);
    }

    private static void refusedDays() {
        SwordPeace x = new SwordPeace();
        Check.due("0 days", x.days(0), -1);
        Check.due("21 days", x.days(21), -1);
        Check.due("greatest int", x.days(Integer.MAX_VALUE), -1);
        Check.due("refused", x.count(13), 3);
        Check.due("no act", x.count(9), 0);
        for (int i = 1; i <= 49; i++) {
            Check.due("20 days", x.days(20), 20 * i);
        }
        Check.due("above 999", x.days(20), -1);
        Check.due("999", x.days(19), 999);
        Check.due("above 999 by one", x.days(1), -1);
        Check.due("refused now", x.count(13), 5);
    }

    private static void swallowing() {
        SwordPeace x = Check.city(TOWN);
        Check.due("swallow 0 0", x.swallow(0, 0), 10);
        Check.due("is in", x.swallow(0, 1), -1);
        Check.due("no room", x.swallow(2, 0), -1);
        Check.due("just room", x.swallow(1, 0), 0);
        Check.due("refused", x.count(13), 2);
        Check.due("acts", x.count(9), 2);
        Check.raises("swallow 4 0", Check.NO_SUCH, () -> x.swallow(4, 0));
        Check.raises("swallow -1 0", Check.NO_SUCH, () -> x.swallow(-1, 0));
        Check.raises("swallow 3 2", Check.NO_SUCH, () -> x.swallow(3, 2));
        Check.raises("swallow 3 -1", Check.NO_SUCH, () -> x.swallow(3, -1));
        Check.due("an exception is no refusal", x.count(13), 2);
    }

    private static void drawing() {
        SwordPeace x = Check.city(TOWN);
        Check.due("none is in", x.draw(0), -1);
        x.swallow(1, 0);
        x.swallow(0, 0);
        Check.due("the last one first", x.draw(0), 0);
        Check.due("it is out", x.blade(0, 3), 0);
        Check.due("then the other one", x.draw(0), 1);
        Check.due("then none", x.draw(0), -1);
        Check.due("refused", x.count(13), 2);
        Check.due("acts", x.count(9), 4);
        Check.raises("draw 2", Check.NO_SUCH, () -> x.draw(2));
        Check.raises("draw -1", Check.NO_SUCH, () -> x.draw(-1));
    }

    private static void broth() {
        SwordPeace x = Check.city(TOWN);
        Check.due("broth 0 1", x.broth(0, 1), 31);
        Check.due("broth 0 20", x.broth(0, 20), 51);
        Check.due("broth 0 0", x.broth(0, 0), -1);
        Check.due("broth 0 21", x.broth(0, 21), -1);
        Check.due("refused", x.count(13), 2);
        x.broth(0, 20);
        x.broth(0, 20);
        Check.due("99 at most", x.broth(0, 20), 99);
        Check.due("at 99 it is still an act", x.broth(0, 5), 99);
        Check.due("acts", x.count(9), 6);
        Check.due("room is left", x.throat(0, 2), 99);
        Check.raises("broth 2", Check.NO_SUCH, () -> x.broth(2, 1));
        Check.raises("broth -1, wrong more", Check.NO_SUCH, () -> x.broth(-1, 99));
    }

    private static void making() {
        SwordPeace x = new SwordPeace();
        int many = 0;
        for (int a = 0; a < 6; a++) {
            for (int b = 0; b < a; b++) {
                Check.due("make", x.make(a, b, true), true);
                Check.due("feuds", x.count(0), ++many);
            }
        }
        Check.due("is so", x.make(0, 1, true), false);
        Check.due("made up", x.make(0, 1, false), true);
        Check.due("is so too", x.make(1, 0, false), false);
        Check.due("one house", x.make(3, 3, true), false);
        Check.due("one house made up", x.make(3, 3, false), false);
        Check.due("refused", x.count(13), 4);
        Check.due("fourteen", x.count(0), 14);
        Check.due("no more", x.feud(1, 0), false);
        Check.raises("make 6 0", Check.NO_SUCH, () -> x.make(6, 0, true) ? 1 : 0);
        Check.raises("make 0 -1", Check.NO_SUCH, () -> x.make(0, -1, true) ? 1 : 0);
    }

    private static void undoing() {
        SwordPeace x = Check.city(TOWN);
        x.swallow(1, 0);
        x.swallow(0, 0);
        x.swallow(3, 1);
        x.draw(0);
        x.broth(1, 9);
        x.make(0, 1, false);
        x.days(20);
        x.days(0);
        Check.due("seven acts", x.count(9), 7);
        Check.due("days undone", x.undo(), 6);
        Check.due("day", x.count(4), 0);
        Check.due("at rest no more", x.count(7), 0);
        Check.due("anger", x.blade(3, 2), 5);
        Check.due("peace undone", x.undo(), 5);
        Check.due("feud again", x.feud(1, 0), true);
        Check.due("broth undone", x.undo(), 4);
        Check.due("room", x.throat(1, 0), 10);
        Check.due("drawing undone", x.undo(), 3);
        Check.due("on top again", x.throat(0, 4), 0);
        x.undo();
        x.undo();
        Check.due("all undone", x.undo(), 0);
        Check.due("all out", x.count(5), 15);
        Check.due("none left", x.undo(), -1);
        Check.due("only the act was refused", x.count(13), 1);
        SwordPeace y = Check.city("feud 0 1;blade 0 1 99;blade 1 1 99;");
        y.days(1);
        Check.due("a fight", y.count(8), 1);
        y.undo();
        Check.due("no fight", y.count(8), 0);
        Check.due("its anger", y.blade(0, 2), 99);
    }

    private static void fortyActs() {
        SwordPeace x = new SwordPeace();
        for (int i = 1; i <= 45; i++) {
            x.days(1);
            Check.due("kept", x.count(9), Math.min(40, i));
        }
        for (int i = 39; i >= 0; i--) {
            Check.due("undo", x.undo(), i);
            Check.due("day", x.count(4), i + 5);
        }
        Check.due("the first five are kept no more", x.undo(), -1);
    }

    private static void drawFirst() {
        SwordPeace x = Check.city("swallower 99 0;swallower 99 0;" + "blade 0 1 50;".repeat(5));
        x.swallow(3, 0);
        x.swallow(0, 0);
        x.swallow(4, 0);
        x.swallow(1, 1);
        Check.due("to draw the lowest", x.toDraw(3), 8 + 1 + 16);
        Check.due("to draw the middle", x.toDraw(0), 1 + 16);
        Check.due("to draw the top", x.toDraw(4), 16);
        Check.due("to draw another", x.toDraw(1), 2);
        Check.due("it is out", x.toDraw(2), 0);
        Check.due("above the lowest", x.above(3), 2);
        Check.due("above the top", x.above(4), 0);
        Check.due("above one that is out", x.above(2), -1);
        Check.raises("toDraw 5", Check.NO_SUCH, () -> x.toDraw(5));
        Check.raises("toDraw -1", Check.NO_SUCH, () -> x.toDraw(-1));
        Check.raises("above 5", Check.NO_SUCH, () -> x.above(5));
        Check.raises("above -1", Check.NO_SUCH, () -> x.above(-1));
        x.draw(0);
        x.swallow(4, 0);
        Check.due("swallowed anew it is on top again", x.toDraw(3), 8 + 1 + 16);
    }

    private static void lacking() {
        SwordPeace x = Check.city("swallower 10 0;swallower 25 0;blade 0 25 1;blade 0 30 1;blade 0 8 1;");
        Check.due("goes in", x.lacks(0), 0);
        Check.due("lacks 5", x.lacks(1), 5);
        x.swallow(0, 1);
        Check.due("is in", x.lacks(0), -1);
        Check.due("lacks 20", x.lacks(1), 20);
        Check.due("goes into the other one", x.lacks(2), 0);
        Check.raises("lacks 3", Check.NO_SUCH, () -> x.lacks(3));
        Check.raises("lacks -1", Check.NO_SUCH, () -> x.lacks(-1));
        Check.due("no swallowers", Check.city("blade 0 1 1;").lacks(0), -1);
    }

    private static void nextHiccup() {
        SwordPeace x = Check.city("swallower 9 0;swallower 9 3;swallower 9 1;swallower 9 30;");
        Check.due("never", x.hiccup(0), -1);
        Check.due("in three days", x.hiccup(1), 3);
        Check.due("each day", x.hiccup(2), 1);
        Check.due("in thirty", x.hiccup(3), 30);
        x.days(2);
        Check.due("tomorrow", x.hiccup(1), 1);
        x.days(1);
        Check.due("in three days again", x.hiccup(1), 3);
        Check.due("each day still", x.hiccup(2), 1);
        Check.due("in twenty-seven", x.hiccup(3), 27);
        Check.raises("hiccup 4", Check.NO_SUCH, () -> x.hiccup(4));
        Check.raises("hiccup -1", Check.NO_SUCH, () -> x.hiccup(-1));
    }
}
