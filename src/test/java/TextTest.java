/** Promises 1 to 4: a new object, the tape, texts and their faults, rules. */
public final class TextTest {
    public static void main(String[] args) {
        newObject();
        tape();
        cityAndTape();
        faultsOfLines();
        faultsOfRules();
        tooMany();
        faultLeavesAll();
        cityIsAnew();
        rules();
        Check.end("TextTest");
    }

    private static void newObject() {
        SwordPeace x = new SwordPeace();
        for (int what = 0; what < 15; what++) {
            Check.due("new count " + what, x.count(what), what == 3 ? 50 : 0);
        }
        Check.due("new fault", x.fault(), SwordPeace.NONE);
        Check.raises("new blade 0", Check.NO_SUCH, () -> x.blade(0, 0));
        Check.raises("new throat 0", Check.NO_SUCH, () -> x.throat(0, 0));
        Check.due("new undo", x.undo(), -1);
        Check.due("new restore", x.restore(), false);
    }

    private static void tape() {
        SwordPeace x = new SwordPeace();
        for (int i = 1; i <= 35; i++) {
            Check.due("feed " + i, x.feed(0x20202020, 0x20202020, 0x20202020, 0x20202020, 0x20202020), 20 * i);
        }
        Check.due("feed 36", x.feed(1, 2, 3, 4, 5), -1);
        Check.due("a full tape", x.count(11), 700);
        Check.due("no status for a full tape", x.count(12) + x.count(13) + x.count(14), 0);
        Check.due("only blanks", x.city(700), 0);
        Check.due("empty then", x.count(11), 0);
        Check.due("feed anew", x.feed(-1, -1, -1, -1, -1), 20);
        Check.due("bytes of 255", x.city(20), 1);
        Check.due("its place", x.fault(), 0);
    }

    private static void cityAndTape() {
        SwordPeace x = new SwordPeace();
        Check.feed(x, "patience 7;");
        Check.raises("more than the tape has", Check.ILLEGAL, () -> x.city(21));
        Check.raises("below 0", Check.ILLEGAL, () -> x.city(-1));
        Check.raises("least int", Check.ILLEGAL, () -> x.city(Integer.MIN_VALUE));
        Check.due("tape stays", x.count(11), 20);
        Check.due("no fault counted", x.count(12), 0);
        Check.due("all of the tape", x.city(20), 0);
        Check.due("patience", x.count(3), 7);
        Check.raises("tape is empty", Check.ILLEGAL, () -> x.city(1));
        Check.feed(x, "patience 12;");
        Check.due("only the first bytes", x.city(11), 1);
        Check.due("ends too soon", x.fault(), 11);
        Check.due("tape is empty behind a fault too", x.count(11), 0);
        Check.raises("that leaves the fault", Check.ILLEGAL, () -> x.city(1));
        Check.due("as it was", x.fault(), 11);
        Check.due("patience stays", x.count(3), 7);
        Check.due("an empty text", x.city(0), 0);
        Check.due("patience is anew", x.count(3), 50);
        Check.due("no fault now", x.fault(), -1);
    }

    private static void faultsOfLines() {
        Check.fine("");
        Check.fine(" \n ");
        Check.fine("feud 0 1;");
        Check.fine("feud0 0001;");
        Check.fine("feud\n0\n5\n;\n");
        Check.fault("x", 1, 0);
        Check.fault("Feud 0 1;", 1, 0);
        Check.fault("feuds 0 1;", 1, 0);
        Check.fault(";", 1, 0);
        Check.fault("12345", 1, 0);
        Check.fault("xeud 0 1;", 1, 0);
        for (char sign = 0; sign < 256; sign++) {
            if (sign != 32 && sign != 10) {
                Check.fault("" + sign, 1, 0);
                Check.fault("patience 9;" + sign, 1, 11);
            }
        }
        Check.fault("  #", 1, 2);
        Check.fault("feud", 1, 4);
        Check.fault("feud  ", 1, 6);
        Check.fault("feud 0", 1, 6);
        Check.fault("feud 0 1", 1, 8);
        Check.fault("feud 0 1 2;", 1, 9);
        Check.fault("feud;0 1", 1, 4);
        Check.fault("feud a 1;", 1, 5);
        Check.fault("feud\t0 1;", 1, 4);
        Check.fault("feud 0 1;;", 1, 9);
        Check.fault("feud 6 1;", 2, 5);
        Check.fault("feud 00001 1;", 2, 5);
        Check.fault("feud 1 6;", 2, 7);
        Check.fault("feud 1 1;", 4, 7);
        Check.fault("feud 0 1;feud 1 0;", 4, 16);
        Check.fault("feud 0 1;feud 0 1;", 4, 16);
        Check.fine("swallower 1 0;swallower 99 30;");
        Check.fault("swallower 0 0;", 2, 10);
        Check.fault("swallower 100 0;", 2, 10);
        Check.fault("swallower 99 31;", 2, 13);
        Check.fault("swallower 99;", 1, 12);
        Check.fine("blade 0 1 0;blade 5 40 99;");
        Check.fault("blade 6 1 0;", 2, 6);
        Check.fault("blade 0 0 0;", 2, 8);
        Check.fault("blade 0 41 0;", 2, 8);
        Check.fault("blade 0 1 100;", 2, 10);
        Check.fault("blade 0 1;", 1, 9);
        Check.fault("blade 0 1 99999999999999;", 2, 10);
        Check.fine("patience 1;");
        Check.fault("patience 0;", 2, 9);
        Check.fault("patience 100;", 2, 9);
        Check.fault("patience 9;patience 9;", 5, 11);
        Check.fault("patience 9;patience x;", 5, 11);
    }

    private static void faultsOfRules() {
        Check.fine("cools 1;rises 1;");
        Check.fault("cools 1;cools 1;", 5, 8);
        Check.fault("rises 1;rises 1;", 5, 8);
        Check.fault("cools ;", 1, 6);
        Check.fault("cools", 1, 5);
        Check.fault("cools 1", 1, 7);
        Check.fault("cools 1 ", 1, 8);
        Check.fine("cools 9999;");
        Check.fault("cools 10000;", 2, 6);
        Check.fine("cools within+above+anger+length+day+foes;");
        Check.fine("rises anger+length+day+foes;");
        Check.fault("rises within;", 3, 6);
        Check.fault("rises above;", 3, 6);
        Check.fault("cools 1;rises within;", 3, 14);
        Check.fine("rises 1;cools within;");
        Check.fault("cools xnger;", 3, 6);
        Check.fault("cools z;", 3, 6);
        Check.fault("cools a;", 3, 6);
        Check.fault("cools " + (char) 1, 1, 6);
        Check.fault("cools " + (char) 2, 1, 6);
        Check.fault("cools 1" + (char) 0, 1, 7);
        Check.fault("cools or 1;", 3, 6);
        Check.fault("cools blade;", 3, 6);
        Check.fault("cools angers;", 3, 6);
        Check.fault("cools 1 or;", 1, 10);
        Check.fault("cools 1 or and;", 3, 11);
        Check.fault("cools 1+not 1;", 3, 8);
        Check.fault("cools 1<not 1;", 3, 8);
        Check.fine("cools 1 and not 1 or not not 0;");
        Check.fine("cools not 1=1;");
        Check.fine("cools (1<2)<3;");
        Check.fault("cools 1<2<3;", 1, 9);
        Check.fault("cools 1=2=3;", 1, 9);
        Check.fault("cools 1==1;", 1, 8);
        Check.fault("cools 1 1;", 1, 8);
        Check.fault("cools 1 anger;", 1, 8);
        Check.fault("cools 1 not 1;", 1, 8);
        Check.fault("cools -1;", 1, 6);
        Check.fault("cools (1;", 1, 8);
        Check.fault("cools 1);", 1, 7);
        Check.fault("cools ();", 1, 7);
        Check.fault("cools (1)(2);", 1, 9);
        Check.fine("cools (((((1)))));");
        Check.fine("rises (((((1)))))+(((((not 2)))));");
        Check.fault("cools ((((((1))))));", 2, 12);
        Check.fault("cools ((((((not 1))))));", 2, 12);
        Check.fault("cools ((((((xyz))))));", 2, 12);
        Check.fault("cools ((((((or))))));", 2, 12);
        Check.fault("cools (((((((1)))))));", 2, 12);
        Check.fault("cools ((((((12345))))));", 2, 12);
        Check.fault("cools (((((()))))));", 1, 12);
        Check.fault("cools ((((((+", 1, 12);
        Check.fault("cools ((((((#", 1, 12);
        Check.fault("cools ((((((  ", 1, 14);
        Check.fine("cools not not not not not not 1;");
        Check.fault("cools not not not not not not not 1;", 2, 30);
        Check.fine("cools not not not not not not (not not not not not not 1);");
        Check.fine("cools not not not not not not 1 and not not not not not not 1;");
    }

    private static void tooMany() {
        StringBuilder feuds = new StringBuilder();
        int many = 0;
        for (int a = 0; a < 6 && many < 9; a++) {
            for (int b = a + 1; b < 6 && many < 9; b++) {
                feuds.append("feud ").append(a).append(' ').append(b).append(';');
                many++;
            }
        }
        Check.fine(feuds.toString());
        Check.fault(feuds + "feud 4 5;", 2, 81);
        Check.fault(feuds + "feud;", 2, 81);
        Check.fine("swallower 9 0;".repeat(5));
        Check.fault("swallower 9 0;".repeat(6), 2, 70);
        Check.fine("blade 0 1 0;".repeat(10));
        Check.fault("blade 0 1 0;".repeat(11), 2, 120);
        Check.fine("rises " + "1+".repeat(346) + "1;");
    }

    private static void faultLeavesAll() {
        SwordPeace x = Check.city("feud 0 1;swallower 9 0;blade 0 1 9;patience 9;");
        x.days(3);
        x.see(0, 1, 1);
        x.image();
        Check.due("a faulty text", Check.tell(x, "patience 5;blade 0 1 1;blade;"), 1);
        Check.due("its place", x.fault(), 28);
        int[] due = {1, 1, 1, 9, 3, 1, 0, 0, 0, 1, 1, 0, 1, 0, 0};
        for (int what = 0; what < due.length; what++) {
            Check.due("behind a fault count " + what, x.count(what), due[what]);
        }
        Check.due("the image stays", x.restore(), true);
        Check.due("status is the image's", x.count(12), 0);
        Check.due("the fault's place is none of the image's", x.fault(), 28);
    }

    private static void cityIsAnew() {
        SwordPeace x = Check.city("feud 0 1;swallower 9 0;blade 0 1 99;blade 1 1 99;patience 9;rises 0;cools 9;");
        x.days(3);
        x.days(21);
        x.see(0, 1, 1);
        x.see(0, 31, 1);
        x.image();
        Check.due("fights so far", x.count(8), 3);
        Check.due("anew", Check.tell(x, "swallower 9 0;blade 3 2 7;"), 0);
        int[] due = {0, 1, 1, 50, 0, 1, 0, 0, 0, 0, 0, 0, 0, 1, 1};
        for (int what = 0; what < due.length; what++) {
            Check.due("anew count " + what, x.count(what), due[what]);
        }
        Check.due("the image is gone", x.restore(), false);
        Check.due("acts are gone", x.undo(), -1);
        Check.due("house", x.blade(0, 0), 3);
        Check.due("length", x.blade(0, 1), 2);
        Check.due("anger", x.blade(0, 2), 7);
        Check.due("no rule of before", x.blade(0, 6), 0);
        x.swallow(0, 0);
        Check.due("nor the other one", x.blade(0, 6), 2);
    }

    private static void rule(String expr, int due) {
        SwordPeace x = Check.city("blade 0 7 30;rises " + expr + ";");
        Check.due("rises " + expr, x.blade(0, 6), due);
    }

    private static void rules() {
        rule("5", 5);
        rule("1+2*3", 7);
        rule("(1+2)*3", 9);
        rule("7/2", 3);
        rule("0-7/2+9", 6);
        rule("(0-7)/2+9", 6);
        rule("7/0+5", 5);
        rule("10-3-2", 5);
        rule("20/2/5", 2);
        rule("20/2*5", 50);
        rule("1<2", 1);
        rule("2<2", 0);
        rule("(0-1<0)*4", 4);
        rule("5=5", 1);
        rule("5=6", 0);
        rule("not 0", 1);
        rule("not 5", 0);
        rule("not not 5", 1);
        rule("3 or 0", 1);
        rule("0 or 0", 0);
        rule("3 and 2", 1);
        rule("3 and 0", 0);
        rule("1 or 1 and 0", 1);
        rule("(1 or 1) and 0", 0);
        rule("not 1 or 1", 1);
        rule("not 0 and 0", 0);
        rule("not (0 and 0)", 1);
        rule("not 1<2", 0);
        rule("not 2+3", 0);
        rule("not 0=0+1", 1);
        rule("(1<2)+(3=3)", 2);
        rule("1+2<2+3", 1);
        rule("anger", 30);
        rule("length", 7);
        rule("day", 0);
        rule("foes", 0);
        rule("200", 99);
        rule("0-5", 0);
        rule("(9999*9999*9999=0-122)*9", 9999 * 9999 * 9999 == -122 ? 9 : 0);
        rule("9999*9999*9999/9999/9999", Math.max(0, Math.min(99, 9999 * 9999 * 9999 / 9999 / 9999)));
        rule("(4096*8192*64<0)*9", 9);
        rule("(4096*8192*64/(0-1)=4096*8192*64)*9", 9);
        rule("(4096*8192*64-1=0-1-4096*8192*64)*9", 9);
        rule("not not not not not not 7", 1);
        rule("20-(2-(3-(4-(5-9))))", 20 - (2 - (3 - (4 - (5 - 9)))));
        rule("(0 or (1 and (2<(3+(4*5)))))*77", 77);
    }
}
