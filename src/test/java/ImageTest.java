/** Promises 39 and 40: an image is kept, and all is as it was. */
public final class ImageTest {
    public static void main(String[] args) {
        SwordPeace x = Check.city("feud 0 1;swallower 9 0;blade 0 2 60;blade 1 3 60;blade 1 1 7;rises 1;");
        Check.due("no image", x.restore(), false);
        x.swallow(2, 0);
        x.days(2);
        x.broth(0, 5);
        x.see(0, 3, 4);
        x.see(0, 33, 4);
        x.days(0);
        Check.tell(x, "?");
        int[] kept = all(x);
        x.image();
        x.days(3);
        x.draw(0);
        x.make(2, 3, true);
        x.broth(0, 1);
        x.forget();
        x.see(1, 1, 1);
        x.see(1, 1, 2);
        x.see(1, 1, 222);
        x.days(-1);
        Check.tell(x, "feud 9");
        Check.due("restore", x.restore(), true);
        same("restored", x, kept);
        Check.due("the fault is the latest one", x.fault(), 5);
        Check.due("undo goes on from there", x.undo(), 2);
        Check.due("room undone", x.throat(0, 0), 9);
        Check.due("undo days", x.undo(), 1);
        Check.due("day undone", x.count(4), 0);
        Check.due("anger undone", x.blade(0, 2), 60);
        Check.due("fights undone", x.count(8), 0);
        x.undo();
        Check.due("all out", x.count(5), 7);
        Check.due("restore once more", x.restore(), true);
        same("restored once more", x, kept);
        x.days(1);
        int[] later = all(x);
        x.image();
        x.days(9);
        Check.due("restore the new one", x.restore(), true);
        same("in place of the other one", x, later);
        x.feed(1, 2, 3, 4, 5);
        x.restore();
        Check.due("the tape is none of it", x.count(11), 20);
        x.city(0);
        Check.due("gone with the city", x.restore(), false);
        fullRing();
        Check.end("ImageTest");
    }

    private static void fullRing() {
        SwordPeace x = new SwordPeace();
        for (int i = 0; i < 50; i++) {
            x.days(1);
        }
        x.image();
        for (int i = 0; i < 25; i++) {
            x.undo();
        }
        x.days(20);
        x.restore();
        Check.due("forty again", x.count(9), 40);
        for (int i = 39; i >= 0; i--) {
            Check.due("undo", x.undo(), i);
            Check.due("the day", x.count(4), 10 + i);
        }
    }

    private static int[] all(SwordPeace x) {
        int[] row = new int[15 + 21 + 5 + 36 + 3];
        int at = 0;
        for (int what = 0; what < 15; what++) {
            row[at++] = x.count(what);
        }
        for (int b = 0; b < 3; b++) {
            for (int what = 0; what < 7; what++) {
                row[at++] = x.blade(b, what);
            }
        }
        for (int what = 0; what < 5; what++) {
            row[at++] = x.throat(0, what);
        }
        for (int h = 0; h < 36; h++) {
            row[at++] = x.feud(h / 6, h % 6) ? 1 : 0;
        }
        for (int what = 0; what < 3; what++) {
            row[at++] = x.wrong(what);
        }
        return row;
    }

    private static void same(String when, SwordPeace x, int[] due) {
        int[] got = all(x);
        for (int i = 0; i < due.length; i++) {
            Check.due(when + ", answer " + i, got[i], due[i]);
        }
    }
}
