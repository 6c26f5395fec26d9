/** Promises 15 to 19, 23, 29: what comes if only days go by, whom to take in so that peace lasts. */
public final class ForecastTest {
    public static void main(String[] args) {
        then();
        peace();
        fightsAndWorst();
        rests();
        toSwallow();
        nothingChanges();
        Check.end("ForecastTest");
    }

    private static void then() {
        SwordPeace x = Check.city("swallower 9 4;blade 0 1 7;blade 0 1 3;cools 1;rises 2;");
        x.swallow(0, 0);
        x.swallow(1, 0);
        Check.due("now", x.then(0, 0, 0), 7);
        Check.due("in 3 days", x.then(0, 3, 0), 4);
        Check.due("it is in then", x.then(0, 3, 1), 1);
        Check.due("the other one is at rest then", x.then(1, 3, 1), 2);
        Check.due("it has no anger", x.then(1, 60, 0), 0);
        Check.due("out by a hiccup", x.then(0, 4, 1), 0);
        Check.due("its anger", x.then(0, 4, 0), 3);
        Check.due("then it rises", x.then(0, 5, 0), 5);
        Check.due("in 60 days", x.then(0, 60, 0), 99);
        Check.raises("then blade 2", Check.NO_SUCH, () -> x.then(2, 0, 0));
        Check.raises("then blade -1", Check.NO_SUCH, () -> x.then(-1, 61, 0));
        Check.raises("then what 2", Check.NO_SUCH, () -> x.then(0, 61, 2));
        Check.raises("then what -1", Check.NO_SUCH, () -> x.then(0, -1, -1));
        Check.raises("then 61 days", Check.ILLEGAL, () -> x.then(0, 61, 0));
        Check.raises("then -1 days", Check.ILLEGAL, () -> x.then(0, -1, 1));
    }

    private static void peace() {
        String town = "feud 0 1;blade 0 1 39;blade 1 1 40;rises 1;patience ";
        Check.due("the day on which the later one has it", Check.city(town + "50;").peace(), 11);
        Check.due("the first day", Check.city(town + "40;").peace(), 1);
        Check.due("day 59", Check.city(town + "98;").peace(), 59);
        Check.due("day 60", Check.city(town + "99;").peace(), 60);
        Check.due("not within 60", Check.city("feud 0 1;blade 0 1 38;blade 1 1 40;rises 1;patience 99;").peace(), -1);
        Check.due("no feud", Check.city("blade 0 1 99;blade 1 1 99;").peace(), -1);
        SwordPeace x = Check.city("feud 0 1;blade 0 1 60;blade 1 1 60;rises 5;");
        x.days(1);
        Check.due("fights so far are none of those to come", x.peace(), 4);
    }

    private static void fightsAndWorst() {
        SwordPeace x = Check.city("feud 0 1;feud 1 2;blade 0 1 80;blade 2 1 80;blade 1 1 80;blade 1 1 80;rises 10;patience 80;");
        Check.due("none in no days", x.fights(0), 0);
        Check.due("two on the first", x.fights(1), 2);
        Check.due("45 rises for four days more", x.fights(4), 2);
        Check.due("and again", x.fights(5), 4);
        Check.due("the house with two blades", x.worst(1), 1);
        Check.due("none in no days", x.worst(0), -1);
        Check.raises("fights 61", Check.ILLEGAL, () -> x.fights(61));
        Check.raises("fights -1", Check.ILLEGAL, () -> x.fights(-1));
        Check.raises("worst 61", Check.ILLEGAL, () -> x.worst(61));
        Check.raises("worst -1", Check.ILLEGAL, () -> x.worst(-1));
        SwordPeace y = Check.city("feud 4 3;blade 4 1 90;blade 3 1 90;");
        Check.due("of like ones the least", y.worst(60), 3);
        y.days(1);
        Check.due("fights so far count for nothing", y.worst(0), -1);
        Check.due("nor here", y.fights(0), 0);
    }

    private static void rests() {
        SwordPeace x = Check.city("swallower 99 0;blade 0 1 60;blade 0 1 61;blade 0 1 1;blade 0 1 0;cools 1;");
        Check.due("out it never rests", x.rests(0), -1);
        for (int b = 0; b < 4; b++) {
            x.swallow(b, 0);
        }
        Check.due("in 60 days", x.rests(0), 60);
        Check.due("not within 60", x.rests(1), -1);
        Check.due("tomorrow", x.rests(2), 1);
        Check.due("tomorrow too", x.rests(3), 1);
        Check.due("calm now", x.calm(0), 0);
        Check.due("calm tomorrow", x.calm(1), 12);
        Check.due("calm in 60 days", x.calm(60), 13);
        x.days(1);
        Check.due("already", x.rests(2), 0);
        Check.due("calm already", x.calm(0), 12);
        Check.raises("rests 4", Check.NO_SUCH, () -> x.rests(4));
        Check.raises("rests -1", Check.NO_SUCH, () -> x.rests(-1));
        Check.raises("calm 61", Check.ILLEGAL, () -> x.calm(61));
        Check.raises("calm -1", Check.ILLEGAL, () -> x.calm(-1));
    }

    private static void toSwallow() {
        SwordPeace x = Check.city("feud 0 1;swallower 5 0;swallower 9 0;blade 0 9 50;blade 1 9 50;blade 0 10 45;blade 2 1 99;rises 1;cools 1;");
        Check.due("peace without", x.peace(), 1);
        Check.due("the only foe", x.toSwallow(0), 1);
        Check.due("no fight then", x.toSwallow(1), -1);
        SwordPeace y = Check.city("feud 0 1;swallower 9 0;blade 0 9 50;blade 1 10 50;blade 0 10 45;rises 1;");
        Check.due("only this one finds room", y.toSwallow(0), 0);
        Check.due("the other one is angry in 5 days", y.toSwallow(1), 5);
        SwordPeace z = Check.city("feud 0 1;swallower 99 0;blade 0 1 50;blade 1 1 50;rises 1;cools 0;");
        Check.due("of like ones the least", z.toSwallow(0), 0);
        z.swallow(0, 0);
        Check.due("no fight is there to delay", z.toSwallow(0), -1);
        Check.due("no such blade", z.toSwallow(1), -1);
        SwordPeace w = Check.city("feud 0 1;swallower 99 0;blade 0 1 50;blade 0 1 50;blade 1 1 50;blade 1 1 50;rises 1;");
        Check.due("none makes it later", w.toSwallow(0), -1);
        SwordPeace v = Check.city("feud 0 1;swallower 1 1;swallower 9 0;blade 0 1 50;blade 1 9 50;rises 1;cools 1;");
        Check.due("the least swallower with room has hiccups", v.toSwallow(0), 1);
        String late = "feud 0 1;swallower 1 0;blade 0 1 50;blade 1 2 99;rises 1;cools 0;blade 0 2 ";
        Check.due("delay of 59", Check.city(late + "40;patience 99;").toSwallow(1), 59);
        Check.due("delay of 60", Check.city(late + "39;patience 99;").toSwallow(1), 60);
        Check.due("no fight within 60", Check.city(late + "38;patience 99;").toSwallow(1), -1);
        Check.due("is latest of all", Check.city(late + "38;patience 99;").toSwallow(0), 0);
        Check.raises("toSwallow 2", Check.NO_SUCH, () -> x.toSwallow(2));
        Check.raises("toSwallow -1", Check.NO_SUCH, () -> x.toSwallow(-1));
    }

    private static void nothingChanges() {
        SwordPeace x = Check.city("feud 0 1;swallower 9 1;blade 0 1 60;blade 1 1 60;");
        x.swallow(0, 0);
        x.then(0, 60, 0);
        x.peace();
        x.fights(60);
        x.rests(0);
        x.worst(60);
        x.toSwallow(0);
        x.calm(60);
        x.game(0, 1, 0);
        x.summer(3, 60, 0);
        x.wrong(0);
        x.look(0);
        int[] due = {1, 1, 2, 50, 0, 2, 1, 0, 0, 1, 0, 0, 0, 0, 0};
        for (int what = 0; what < due.length; what++) {
            Check.due("as before, count " + what, x.count(what), due[what]);
        }
        Check.due("anger as before", x.blade(0, 2) + x.blade(1, 2), 120);
    }
}
