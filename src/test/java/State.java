/** All that can be asked of an object without changing it, and towns in which much has happened. */
final class State {
    /** Where in the row of all answers the tape's bytes and STATUS 0 are, and how far from its end the FAULT's place. */
    static final int TAPE = 11;
    static final int STATUS = 12;
    static final int FROM_FAULT = 6;

    private State() {
    }

    /** Some 150 answers for a small town: two such rows stay below the 512 calls of an object. */
    static int[] of(SwordPeace x) {
        int blades = x.count(2);
        int swallowers = x.count(1);
        int[] row = new int[15 + 7 * blades + 5 * swallowers + 15 + 6];
        int at = 0;
        for (int what = 0; what < 15; what++) {
            row[at++] = x.count(what);
        }
        for (int b = 0; b < blades; b++) {
            for (int what = 0; what < 7; what++) {
                row[at++] = x.blade(b, what);
            }
        }
        for (int s = 0; s < swallowers; s++) {
            for (int what = 0; what < 5; what++) {
                row[at++] = x.throat(s, what);
            }
        }
        for (int h = 0; h < 6; h++) {
            for (int other = 0; other < h; other++) {
                row[at++] = x.feud(h, other) ? 1 : 0;
            }
        }
        row[at++] = x.fault();
        row[at++] = x.wrong(0);
        row[at++] = x.wrong(1);
        row[at++] = x.wrong(2);
        row[at++] = x.look(0);
        row[at++] = x.look(1);
        return row;
    }

    static void same(String when, int[] got, int[] due) {
        Check.due(when + ": answers", got.length, due.length);
        for (int i = 0; i < due.length && i < got.length; i++) {
            Check.due(when + ": answer " + i, got[i], due[i]);
        }
    }

    /** Blades OUT, IN and AT REST, acts of each kind, something SEEN, an image, a fault, STATUS, bytes on the tape. */
    static SwordPeace busy() {
        return busy("patience 7;blade 1 1 1;");
    }

    static SwordPeace busy(String onTape) {
        SwordPeace x = Check.city("feud 0 1;feud 1 2;swallower 20 3;swallower 9 0;blade 0 5 60;blade 1 6 55;"
                + "blade 2 7 40;blade 1 2 2;blade 0 20 70;cools 2+above;rises foes;patience 65;");
        x.swallow(3, 1);
        x.days(1);
        x.swallow(1, 0);
        x.swallow(0, 0);
        x.see(2, 0, 44);
        x.days(0);
        x.see(0, 31, 0);
        x.image();
        x.broth(1, 3);
        x.make(2, 3, true);
        x.draw(0);
        x.see(4, 2, 80);
        Check.tell(x, "feud 0 1 ?");
        Check.feed(x, onTape);
        return x;
    }

    /** A call that is refused answers so, counts in one STATUS (NONE: in none) and leaves all else as it was. */
    static void refuses(String what, Check.Asked call, int answer, int status) {
        SwordPeace x = busy();
        Check.due(what, call.of(x), answer);
        leftAlone(what, x, status);
    }

    /** A call that throws leaves all as it was, STATUS too. */
    static void raises(String what, Class<?> due, Check.Asked call) {
        SwordPeace x = busy();
        Check.raises(what, due, () -> call.of(x));
        leftAlone(what, x, SwordPeace.NONE);
    }

    /** A question leaves all as it was. */
    static void leaves(String what, Check.Asked question) {
        SwordPeace x = busy();
        question.of(x);
        leftAlone(what, x, SwordPeace.NONE);
    }

    private static void leftAlone(String what, SwordPeace x, int status) {
        SwordPeace twin = busy();
        int[] due = of(twin);
        if (status != SwordPeace.NONE) {
            due[STATUS + status]++;
        }
        same(what + " leaves all", of(x), due);
        for (int acts = twin.count(9); acts > 0; acts--) {
            twin.undo();
            Check.due(what + " leaves acts to undo", x.undo(), acts - 1);
            Check.due(what + " leaves the days of acts", x.count(4), twin.count(4));
            Check.due(what + " leaves where blades were", x.count(5), twin.count(5));
            Check.due(what + " leaves rooms", x.throat(1, 0), twin.throat(1, 0));
            Check.due(what + " leaves feuds", x.count(0), twin.count(0));
        }
        Check.due(what + " leaves the image", x.restore(), twin.restore());
        same(what + " leaves what the image keeps", of(x), of(twin));
    }
}
