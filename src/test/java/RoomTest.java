import java.lang.management.ManagementFactory;

/** One run's calls live in one room: an object is small, and no call makes anything. */
public final class RoomTest {
    private static final String TOWN = "feud 0 1;feud 1 2;feud 2 0;" + "swallower 30 3;".repeat(5)
            + "blade 0 7 70;blade 1 8 80;blade 2 9 90;blade 0 10 20;".repeat(2) + "blade 1 5 5;blade 2 6 6;"
            + "cools 1+(above<within)*foes;rises (anger<50)+foes/2;patience 60;";

    private static long bytes() {
        com.sun.management.ThreadMXBean bean = (com.sun.management.ThreadMXBean) ManagementFactory.getThreadMXBean();
        return bean.getThreadAllocatedBytes(Thread.currentThread().getId());
    }

    public static void main(String[] args) {
        bytes();
        Check.city(TOWN);
        long before = bytes();
        SwordPeace x = new SwordPeace();
        long made = bytes() - before;
        Check.due("an object has at most some 12,000 elements of 4 bytes (" + made + ")", made < 48_000, true);
        Check.feed(x, TOWN);
        before = bytes();
        int sum = x.city(TOWN.length());
        for (int i = 0; i < 10; i++) {
            sum += calls(x, i);
        }
        long used = bytes() - before;
        Check.due("calls make nothing (" + used + " bytes)", used < 20_000, true);
        Check.due("a call was answered", sum != 0, true);
        Check.end("RoomTest");
    }

    private static int calls(SwordPeace x, int i) {
        int sum = x.swallow(i, i % 5) + x.days(1) + x.broth(i % 5, 2) + x.draw((i + 1) % 5);
        sum += x.then(i, 60, 0) + x.peace() + x.fights(60) + x.rests(i) + x.worst(60) + x.calm(60);
        sum += x.takeIn(-1) + x.takeIn(i) + x.throats() + x.toDraw(i) + x.toSwallow(0) + x.toSwallow(1);
        sum += x.camps() + x.couples() + x.grudge(1) + x.foes(0, 1) + x.parts() + x.lacks(i) + x.above(i);
        sum += x.hiccup(i % 5) + x.see(i, 9, 50) + x.wrong(0) + x.wrong(1) + x.wrong(2) + x.look(0) + x.look(1);
        sum += x.game(0, 1, 0) + x.summer(i, 60, 2) + x.blade(i, 6) + x.throat(i % 5, 2) + x.count(7);
        x.image();
        x.forget();
        sum += x.undo() + (x.restore() ? 1 : 0) + (x.make(3, 4, i % 2 == 0) ? 1 : 0);
        return sum;
    }
}
