/** ACTS and promises 5 to 14, sentence by sentence: what is refused, what throws, and what that leaves as it was. */
public final class ActBoundsTest {
    private static final int[] WRONG_HOUSES = {-1, 6, Integer.MIN_VALUE, Integer.MAX_VALUE};
    /** In State.busy() there are BLADES 0 to 4 and SWALLOWERS 0 and 1. */
    private static final int[] WRONG_BLADES = {-1, 5, 10, Integer.MIN_VALUE, Integer.MAX_VALUE};
    private static final int[] WRONG_SWALLOWERS = {-1, 2, 5, Integer.MIN_VALUE, Integer.MAX_VALUE};
    private static final int ACTS = 1;

    public static void main(String[] args) {
        counts();
        bladesThatAre();
        throatsThatAre();
        housesThatAre();
        daysOfAnAct();
        daysUpTo999();
        swallowingByRoom();
        swallowingWhoIsOut();
        swallowingNobody();
        drawing();
        broth();
        making();
        fifteenFeuds();
        undoOfNone();
        undoOfEach();
        fortyActs();
        actsBehindUndo();
        refusedIsNoAct();
        Check.end("ActBoundsTest");
    }

    // Promise 5: "NoSuchElementException: another what."
    private static void counts() {
        SwordPeace x = State.busy();
        int[] due = {3, 2, 5, 65, 1, 1 + 4 + 16, 2, 8, 0, 7, 2, 40, 1, 1, 1};
        for (int what = 0; what < due.length; what++) {
            Check.due("busy, count " + what, x.count(what), due[what]);
        }
        for (int what : new int[] {-1, 15, Integer.MIN_VALUE, Integer.MAX_VALUE}) {
            State.raises("count " + what, Check.NO_SUCH, y -> y.count(what));
        }
    }

    // Promise 6: "NoSuchElementException: no such BLADE (as everywhere), what."
    private static void bladesThatAre() {
        SwordPeace x = State.busy();
        for (int what : new int[] {-1, 7, Integer.MIN_VALUE, Integer.MAX_VALUE}) {
            State.raises("blade what " + what, Check.NO_SUCH, y -> y.blade(0, what));
        }
        for (int b : WRONG_BLADES) {
            State.raises("blade " + b, Check.NO_SUCH, y -> y.blade(b, 0));
            State.raises("blade " + b + " what 7", Check.NO_SUCH, y -> y.blade(b, 7));
        }
        int[] drawn = {0, 5, 61, 0, -1, 0, 0};
        int[] in = {1, 6, 58, 1, 0, 0, 2};
        int[] rest = {1, 2, 0, 2, -1, 0, 0};
        int[] last = {0, 20, 71, 0, -1, 0, 0};
        for (int what = 0; what < 7; what++) {
            Check.due("one that was drawn, " + what, x.blade(0, what), drawn[what]);
            Check.due("one in, " + what, x.blade(1, what), in[what]);
            Check.due("one at rest, " + what, x.blade(3, what), rest[what]);
            Check.due("the last one, " + what, x.blade(4, what), last[what]);
        }
    }

    // Promise 7: "NoSuchElementException: no such SWALLOWER (as everywhere), what."
    private static void throatsThatAre() {
        SwordPeace x = State.busy();
        for (int what : new int[] {-1, 5, Integer.MIN_VALUE, Integer.MAX_VALUE}) {
            State.raises("throat what " + what, Check.NO_SUCH, y -> y.throat(0, what));
        }
        for (int s : WRONG_SWALLOWERS) {
            State.raises("throat " + s, Check.NO_SUCH, y -> y.throat(s, 0));
            State.raises("throat " + s + " what 5", Check.NO_SUCH, y -> y.throat(s, 5));
        }
        int[] one = {20, 3, 14, 1, 1};
        int[] none = {12, 0, 12, 0, -1};
        for (int what = 0; what < 5; what++) {
            Check.due("throat 0, " + what, x.throat(0, what), one[what]);
            Check.due("throat 1, " + what, x.throat(1, what), none[what]);
        }
    }

    // Promise 8: "NoSuchElementException: no such HOUSE (as everywhere)."
    private static void housesThatAre() {
        SwordPeace x = State.busy();
        Check.due("houses 4 and 5", x.feud(4, 5), false);
        Check.due("0 and itself", x.feud(0, 0), false);
        Check.due("0 and 1", x.feud(0, 1), true);
        Check.due("2 and 3, by an act", x.feud(3, 2), true);
        for (int h : WRONG_HOUSES) {
            State.raises("feud of " + h, Check.NO_SUCH, y -> y.feud(h, 0) ? 1 : 0);
            State.raises("feud with " + h, Check.NO_SUCH, y -> y.feud(5, h) ? 1 : 0);
            State.raises("make of " + h, Check.NO_SUCH, y -> y.make(h, 0, true) ? 1 : 0);
            State.raises("make with " + h, Check.NO_SUCH, y -> y.make(5, h, false) ? 1 : 0);
            State.raises("make of one and itself " + h, Check.NO_SUCH, y -> y.make(h, h, true) ? 1 : 0);
        }
    }

    // "DAYS go by (1 to 20)"; promise 9: "NONE (STATUS 1): not 1 to 20"
    private static void daysOfAnAct() {
        for (int many : new int[] {0, -1, 21, Integer.MIN_VALUE, Integer.MAX_VALUE, Integer.MAX_VALUE - 1}) {
            State.refuses("days " + many, y -> y.days(many), -1, ACTS);
        }
        SwordPeace x = State.busy();
        Check.due("one", x.days(1), 2);
        Check.due("twenty", x.days(20), 22);
        Check.due("acts", x.count(9), 9);
        Check.due("refused as before", x.count(13), 1);
    }

    // Promise 9: "it would be above 999"
    private static void daysUpTo999() {
        SwordPeace x = atDay980();
        Check.due("1000", x.days(20), -1);
        Check.due("999", x.days(19), 999);
        for (int many : new int[] {1, 20, 21, 0}) {
            Check.due("at 999, days " + many, x.days(many), -1);
        }
        Check.due("refused", x.count(13), 5);
        Check.due("the day stays", x.count(4), 999);
        Check.due("undone", x.undo(), 39);
        Check.due("980", x.count(4), 980);
        Check.due("one by one", x.days(18), 998);
        Check.due("two are too many", x.days(2), -1);
        Check.due("one is not", x.days(1), 999);
        SwordPeace y = atDay980();
        y.undo();
        y.days(19);
        Check.due("979 and 20 is 999", y.days(20), 999);
    }

    private static SwordPeace atDay980() {
        SwordPeace x = Check.city("blade 0 1 1;");
        for (int i = 1; i <= 49; i++) {
            x.days(20);
        }
        return x;
    }

    // "A SWALLOWER's LENGTHS together are no more than ROOM when one is swallowed"; promise 10: "no room"
    private static void swallowingByRoom() {
        SwordPeace x = Check.city("swallower 10 0;swallower 1 0;swallower 99 0;blade 0 10 1;blade 0 1 1;blade 0 9 1;blade 0 2 1;"
                + "blade 0 40 1;blade 0 40 1;blade 0 19 1;");
        Check.due("just room", x.swallow(0, 0), 0);
        Check.due("no room for 1", x.swallow(1, 0), -1);
        x.draw(0);
        Check.due("9 of 10", x.swallow(2, 0), 1);
        Check.due("2 into 1", x.swallow(3, 0), -1);
        Check.due("10 into 1", x.swallow(0, 1), -1);
        Check.due("1 into 1", x.swallow(1, 0), 0);
        Check.due("40 of 99", x.swallow(4, 2), 59);
        Check.due("80 of 99", x.swallow(5, 2), 19);
        Check.due("99 of 99", x.swallow(6, 2), 0);
        Check.due("refused", x.count(13), 3);
        State.refuses("no room", y -> y.swallow(4, 0), -1, ACTS);
        State.refuses("no room at all", y -> y.swallow(4, 1), -1, ACTS);
    }

    // Promise 10: "NONE (STATUS 1): not OUT"
    private static void swallowingWhoIsOut() {
        State.refuses("it is in", y -> y.swallow(1, 1), -1, ACTS);
        State.refuses("it is in the same", y -> y.swallow(1, 0), -1, ACTS);
        State.refuses("it is at rest", y -> y.swallow(3, 1), -1, ACTS);
        SwordPeace x = State.busy();
        Check.due("out it goes in", x.swallow(2, 1), 5);
        Check.due("and again behind drawing", x.draw(1), 2);
        Check.due("in", x.swallow(2, 1), 5);
    }

    private static void swallowingNobody() {
        for (int b : WRONG_BLADES) {
            State.raises("swallow blade " + b, Check.NO_SUCH, y -> y.swallow(b, 0));
            State.raises("swallow blade " + b + " by none", Check.NO_SUCH, y -> y.swallow(b, 9));
        }
        for (int s : WRONG_SWALLOWERS) {
            State.raises("swallower " + s, Check.NO_SUCH, y -> y.swallow(2, s));
            State.raises("swallower " + s + ", a blade that is in", Check.NO_SUCH, y -> y.swallow(1, s));
        }
    }

    // Promise 11: "DRAWN: the BLADE. NONE (STATUS 1): none is in."
    private static void drawing() {
        State.refuses("none is in", y -> y.draw(1), -1, ACTS);
        for (int s : WRONG_SWALLOWERS) {
            State.raises("draw " + s, Check.NO_SUCH, y -> y.draw(s));
        }
        SwordPeace x = State.busy();
        Check.due("the only one", x.draw(0), 1);
        Check.due("none more", x.draw(0), -1);
        Check.due("it is out", x.blade(1, 3), 0);
        Check.due("room", x.throat(0, 2), 20);
        SwordPeace y = Check.city("swallower 10 0;" + "blade 0 1 1;".repeat(10));
        for (int b = 0; b < 10; b++) {
            y.swallow(b, 0);
        }
        for (int b = 9; b >= 0; b--) {
            Check.due("the last one first", y.draw(0), b);
        }
        Check.due("ten are out", y.draw(0), -1);
    }

    // "BROTH makes ROOM more (1 to 20, 99 at most)"; promise 12: "NONE (STATUS 1): not 1 to 20."
    private static void broth() {
        for (int more : new int[] {0, -1, 21, Integer.MIN_VALUE, Integer.MAX_VALUE}) {
            State.refuses("broth of " + more, y -> y.broth(0, more), -1, ACTS);
        }
        for (int s : WRONG_SWALLOWERS) {
            State.raises("broth for " + s, Check.NO_SUCH, y -> y.broth(s, 1));
            State.raises("broth of 0 for " + s, Check.NO_SUCH, y -> y.broth(s, 0));
        }
        SwordPeace x = Check.city("swallower 78 0;swallower 79 0;swallower 98 0;swallower 99 0;swallower 1 0;blade 0 20 9;");
        Check.due("78 and 20", x.broth(0, 20), 98);
        Check.due("79 and 20", x.broth(1, 20), 99);
        Check.due("98 and 1", x.broth(2, 1), 99);
        Check.due("98 and 20", x.broth(0, 20), 99);
        Check.due("99 and 1", x.broth(3, 1), 99);
        Check.due("99 and 20", x.broth(3, 20), 99);
        Check.due("1 and 20", x.broth(4, 20), 21);
        Check.due("each is an act", x.count(9), 7);
        Check.due("none was refused", x.count(13), 0);
        Check.due("there is room", x.swallow(0, 4), 1);
        Check.due("and more", x.broth(4, 1), 22);
        Check.due("left", x.throat(4, 2), 2);
        Check.due("the others stay", x.throat(0, 0), 99);
    }

    // Promise 13: "False (STATUS 1): both are one, it is so already."
    private static void making() {
        State.refuses("both are one", y -> y.make(2, 2, true) ? 1 : 0, 0, ACTS);
        State.refuses("both are one, no feud", y -> y.make(5, 5, false) ? 1 : 0, 0, ACTS);
        State.refuses("they are at feud", y -> y.make(0, 1, true) ? 1 : 0, 0, ACTS);
        State.refuses("they are at feud, other way", y -> y.make(1, 0, true) ? 1 : 0, 0, ACTS);
        State.refuses("by an act", y -> y.make(3, 2, true) ? 1 : 0, 0, ACTS);
        State.refuses("they aren't", y -> y.make(0, 2, false) ? 1 : 0, 0, ACTS);
        SwordPeace x = State.busy();
        Check.due("made up", x.make(1, 0, false), true);
        Check.due("for both", x.feud(0, 1) || x.feud(1, 0), false);
        Check.due("now it is so", x.make(0, 1, false), false);
        Check.due("anew", x.make(0, 1, true), true);
        Check.due("for both", x.feud(0, 1) && x.feud(1, 0), true);
    }

    // "(at most 15 are there, all couples)"
    private static void fifteenFeuds() {
        SwordPeace x = Check.city("feud 0 1;feud 0 2;feud 0 3;feud 0 4;feud 0 5;feud 1 2;feud 1 3;feud 1 4;feud 1 5;");
        int[] more = {23, 24, 25, 34, 35, 45};
        for (int i = 0; i < 6; i++) {
            Check.due("the feud " + (10 + i), x.make(more[i] / 10, more[i] % 10, true), true);
            Check.due("there are", x.count(0), 10 + i);
        }
        for (int a = 0; a < 6; a++) {
            for (int b = 0; b < 6; b++) {
                Check.due(a + " and " + b, x.feud(a, b), a != b);
                Check.due("no sixteenth", x.make(a, b, true), false);
            }
        }
        Check.due("refused", x.count(13), 36);
        Check.due("still fifteen", x.count(0), 15);
    }

    // Promise 14: "NONE: there is none."
    private static void undoOfNone() {
        SwordPeace x = Check.city("swallower 9 0;blade 0 1 1;");
        int[] before = State.of(x);
        Check.due("none", x.undo(), -1);
        Check.due("none still", x.undo(), -1);
        State.same("undo of none", State.of(x), before);
    }

    // "They are UNDONE, the last one first."; promise 14: "how many are left"
    private static void undoOfEach() {
        SwordPeace x = Check.city("feud 0 1;swallower 20 2;swallower 20 0;blade 0 5 60;blade 1 6 1;blade 1 7 70;cools 1;rises 1;");
        Check.Asked[] acts = {y -> y.swallow(0, 0), y -> y.swallow(1, 0), y -> y.broth(0, 20), y -> y.days(1), y -> y.days(20),
            y -> y.make(0, 1, false) ? 1 : 0, y -> y.swallow(2, 1), y -> y.make(4, 5, true) ? 1 : 0, y -> y.draw(1), y -> y.days(3)};
        int[][] before = new int[acts.length][];
        for (int i = 0; i < acts.length; i++) {
            before[i] = row(x);
            Check.due("act " + i + " is one", acts[i].of(x) >= 0, true);
        }
        for (int i = acts.length - 1; i >= 0; i--) {
            Check.due("left", x.undo(), i);
            State.same("act " + i + " undone", row(x), before[i]);
        }
        Check.due("none", x.undo(), -1);
    }

    private static int[] row(SwordPeace x) {
        int[] row = {x.count(0), x.count(4), x.count(5), x.count(6), x.count(7), x.count(8), x.count(9), x.blade(0, 2),
            x.blade(1, 2), x.blade(2, 2), x.blade(0, 6), x.blade(2, 6), x.throat(0, 0), x.throat(0, 2), x.throat(0, 4),
            x.throat(1, 2), x.feud(0, 1) ? 1 : 0, x.feud(5, 4) ? 1 : 0, x.peace()};
        return row;
    }

    // "ACTS (at most 40 are kept, the latest ones)"
    private static void fortyActs() {
        SwordPeace x = Check.city("swallower 9 0;blade 0 1 1;");
        for (int i = 1; i <= 40; i++) {
            x.broth(0, 2);
            Check.due("kept", x.count(9), i);
        }
        x.days(1);
        Check.due("40 of 41", x.count(9), 40);
        x.days(1);
        Check.due("40 of 42", x.count(9), 40);
        for (int i = 39; i >= 0; i--) {
            Check.due("left", x.undo(), i);
        }
        Check.due("the first two acts stay", x.throat(0, 0), 13);
        Check.due("no more", x.undo(), -1);
        Check.due("they stay still", x.throat(0, 0), 13);
    }

    private static void actsBehindUndo() {
        SwordPeace x = Check.city("swallower 9 0;blade 0 1 1;");
        for (int i = 0; i < 45; i++) {
            x.days(1);
        }
        for (int i = 0; i < 30; i++) {
            x.undo();
        }
        Check.due("ten are left", x.count(9), 10);
        Check.due("day 15", x.count(4), 15);
        for (int i = 0; i < 35; i++) {
            x.days(2);
        }
        Check.due("forty again", x.count(9), 40);
        Check.due("day 85", x.count(4), 85);
        for (int i = 0; i < 40; i++) {
            x.undo();
        }
        Check.due("five of the ten are kept", x.count(4), 10);
        Check.due("no more", x.undo(), -1);
    }

    private static void refusedIsNoAct() {
        SwordPeace x = Check.city("swallower 9 0;blade 0 1 1;");
        x.days(3);
        x.days(0);
        x.draw(0);
        x.broth(0, 0);
        x.make(0, 0, true);
        x.swallow(0, 0);
        x.swallow(0, 0);
        Check.due("two acts", x.count(9), 2);
        Check.due("five were refused", x.count(13), 5);
        Check.due("undo", x.undo(), 1);
        Check.due("undo", x.undo(), 0);
        Check.due("day 0", x.count(4), 0);
        Check.due("STATUS is none of what is undone", x.count(13), 5);
    }
}
