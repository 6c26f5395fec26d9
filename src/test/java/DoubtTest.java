/** Promises 33 to 36: what is seen, whose anger was told wrong, where to look next, forgetting. */
public final class DoubtTest {
    public static void main(String[] args) {
        seeing();
        wrong();
        wrongByFights();
        atRest();
        look();
        afterDays();
        Check.end("DoubtTest");
    }

    private static void seeing() {
        SwordPeace x = Check.city("blade 0 1 9;");
        Check.due("not 0 to 30", x.see(0, 31, 0), -1);
        Check.due("not 0 to 30", x.see(0, -1, 0), -1);
        Check.due("not 0 to 99", x.see(0, 0, 100), -1);
        Check.due("not 0 to 99", x.see(0, 0, -1), -1);
        Check.due("refused", x.count(14), 4);
        Check.raises("see 1", Check.NO_SUCH, () -> x.see(1, 99, 999));
        Check.raises("see -1", Check.NO_SUCH, () -> x.see(-1, 0, 0));
        for (int i = 1; i <= 8; i++) {
            Check.due("see", x.see(0, i % 2 == 0 ? 30 : 0, i % 3 == 0 ? 99 : 0), i);
        }
        Check.due("there are 8", x.see(0, 0, 0), -1);
        Check.raises("ahead of that", Check.NO_SUCH, () -> x.see(1, 0, 0));
        Check.due("refused", x.count(14), 5);
        Check.due("seen", x.count(10), 8);
        Check.due("no act", x.count(9), 0);
        x.forget();
        Check.due("forgotten", x.count(10), 0);
        Check.due("status stays", x.count(14), 5);
        Check.due("anew", x.see(0, 0, 0), 1);
    }

    private static void wrong() {
        SwordPeace x = Check.city("blade 0 1 9;blade 1 1 20;rises 2;");
        Check.due("all, as nothing is seen", x.wrong(0), 198);
        Check.due("the first of all", x.wrong(1), 0);
        Check.due("so without", x.wrong(2), 1);
        x.see(1, 3, 26);
        Check.due("so without still", x.wrong(2), 1);
        Check.due("the other one may have any", x.wrong(0), 99);
        x.see(0, 2, 50);
        Check.due("not so without", x.wrong(2), 0);
        Check.due("one", x.wrong(0), 1);
        Check.due("blade 0, 46", x.wrong(1), 46);
        x.see(1, 0, 21);
        Check.due("none", x.wrong(0), 0);
        Check.due("no first", x.wrong(1), -1);
        Check.raises("wrong 3", Check.NO_SUCH, () -> x.wrong(3));
        Check.raises("wrong -1", Check.NO_SUCH, () -> x.wrong(-1));
        x.forget();
        x.see(0, 0, 99);
        Check.due("99 is an anger, too", x.wrong(1), 99);
        Check.due("no blades, nothing wrong", new SwordPeace().wrong(0), 0);
        Check.due("but so", new SwordPeace().wrong(2), 1);
    }

    private static void wrongByFights() {
        SwordPeace x = Check.city("feud 0 1;blade 0 1 10;blade 1 1 80;rises 0;patience 60;");
        x.see(1, 1, 40);
        Check.due("blade 0 from 60 on, or blade 1 with 40", x.wrong(0), 41);
        Check.due("the first", x.wrong(1), 60);
        x.see(0, 1, 31);
        Check.due("62 or 63", x.wrong(0), 2);
        Check.due("62", x.wrong(1), 62);
        x.see(0, 0, 63);
        Check.due("63", x.wrong(1), 63);
        Check.due("anger is as before", x.blade(0, 2), 10);
    }

    private static void atRest() {
        SwordPeace x = Check.city("swallower 9 0;blade 0 1 1;");
        x.swallow(0, 0);
        x.days(1);
        Check.due("one at rest may have been told wrong, too", x.wrong(0), 99);
        Check.due("the first has 1", x.wrong(1), 1);
        x.see(0, 30, 17);
        Check.due("at rest it keeps it", x.wrong(1), 17);
    }

    private static void look() {
        SwordPeace x = Check.city("blade 0 1 98;blade 0 2 50;rises (length=1)*20;");
        Check.due("blade 1 has 0 to 99", x.look(1), 100);
        Check.due("blade 0 only 60 to 99", x.look(0), 1);
        x.see(1, 0, 50);
        Check.due("only blade 0 is unlike", x.look(0), 0);
        Check.due("60 to 99", x.look(1), 40);
        x.see(0, 1, 50);
        Check.due("one way", x.look(1), 1);
        Check.due("of like ones the least", x.look(0), 0);
        x.see(0, 1, 51);
        Check.due("no way", x.look(0), -1);
        Check.due("none", x.look(1), 0);
        x.forget();
        Check.due("as before", x.look(1), 100);
        Check.raises("look 2", Check.NO_SUCH, () -> x.look(2));
        Check.raises("look -1", Check.NO_SUCH, () -> x.look(-1));
    }

    private static void afterDays() {
        SwordPeace x = Check.city("blade 0 1 10;rises 1;");
        x.see(0, 2, 12);
        Check.due("so", x.wrong(2), 1);
        x.days(1);
        Check.due("what is seen stays, counted from now on", x.wrong(2), 0);
        Check.due("10 would be so", x.wrong(1), 10);
        x.undo();
        Check.due("so again", x.wrong(2), 1);
        Check.due("seen still", x.count(10), 1);
    }
}
