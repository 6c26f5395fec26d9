/** Part 1 of the terms and promises 1 to 4, sentence by sentence: what may just stand in a text, and what not. */
public final class TextBoundsTest {
    private static final String NINE_FEUDS = "feud 0 1;feud 0 2;feud 0 3;feud 0 4;feud 0 5;feud 1 2;feud 1 3;feud 1 4;feud 1 5;";
    private static final String SIX_NOTS = "not not not not not not ";

    public static void main(String[] args) {
        noBladesInANewObject();
        feedTakesTwentyBytesHighestFirst();
        feedStopsAt700();
        refusedFeedLeavesAll();
        cityTakesTheFirstBytes();
        cityNeedsSoManyBytes();
        faultIsTheLatestCitys();
        aFaultLeavesAllButStatus();
        aCityIsAllAnew();
        aCityIsAllAnewAfterMany();
        longRulesAgainAndAgain();
        aTextOf700Bytes();
        tokens();
        blanks();
        nothingIsACity();
        linesThatEndTooSoon();
        wrongTokensInLines();
        houses();
        feuds();
        swallowers();
        blades();
        patience();
        digits();
        secondHouse();
        toldTwice();
        wherePartsMustStand();
        whereJoinsMustStand();
        oneTest();
        valuesOfRules();
        depth();
        nots();
        firstAlongTheText();
        leastOfOneToken();
        longRules();
        Check.end("TextBoundsTest");
    }

    // Promise 1: "No BLADES."
    private static void noBladesInANewObject() {
        SwordPeace x = new SwordPeace();
        int[] due = {0, 0, 0, 50, 0, 0, 0, 0, 0, 0, 0, 0, 0, 0, 0};
        for (int what = 0; what < due.length; what++) {
            Check.due("new, count " + what, x.count(what), due[what]);
        }
        for (int id : new int[] {0, 9, -1, Integer.MAX_VALUE, Integer.MIN_VALUE}) {
            Check.raises("new, blade " + id, Check.NO_SUCH, () -> x.blade(id, 0));
            Check.raises("new, throat " + id, Check.NO_SUCH, () -> x.throat(id, 0));
        }
        Check.due("new, fault", x.fault(), -1);
        Check.due("new, undo", x.undo(), -1);
        Check.due("new, restore", x.restore(), false);
        Check.due("new, a day", x.days(1), 1);
    }

    // Promise 2: "Twenty bytes come behind the tape, of each number the highest first: how many it has"
    private static void feedTakesTwentyBytesHighestFirst() {
        SwordPeace x = new SwordPeace();
        Check.due("blad e 0  40 9 9;..", x.feed(0x626c6164, 0x65203020, 0x34302039, 0x393b2020, 0x20202020), 20);
        Check.due("bytes", x.count(11), 20);
        Check.due("behind these", x.feed(0x66657564, 0x20302035, 0x3b202020, 0x20202020, 0x20202020), 40);
        Check.due("they tell a city", x.city(40), 0);
        Check.due("its blade's length", x.blade(0, 1), 40);
        Check.due("its anger", x.blade(0, 2), 99);
        Check.due("its feud", x.feud(0, 5), true);
        SwordPeace y = new SwordPeace();
        y.feed(0x20202020, 0x20202020, 0x20202020, 0x20202020, 0x202020ff);
        Check.due("a byte of 255 is the last one", y.city(20), 1);
        Check.due("at place 19", y.fault(), 19);
        y.feed(0x80000000, 0, 0, 0, 0);
        Check.due("the sign's bit is a byte's, too", y.city(20), 1);
        Check.due("at place 0", y.fault(), 0);
    }

    // Promise 2: "NONE, and none come, if it would have more than 700."
    private static void feedStopsAt700() {
        SwordPeace x = new SwordPeace();
        for (int i = 1; i <= 34; i++) {
            blanks(x);
        }
        Check.due("680", x.count(11), 680);
        Check.due("just 700", blanks(x), 700);
        for (int i = 0; i < 3; i++) {
            Check.due("720", x.feed(-1, -1, -1, -1, -1), -1);
            Check.due("none came", x.count(11), 700);
        }
        Check.due("no STATUS", x.count(12) + x.count(13) + x.count(14), 0);
        Check.due("the bytes are as before: blanks", x.city(700), 0);
        Check.due("empty, so there is room", blanks(x), 20);
    }

    private static int blanks(SwordPeace x) {
        return x.feed(0x20202020, 0x20202020, 0x20202020, 0x20200a20, 0x20202020);
    }

    private static void refusedFeedLeavesAll() {
        SwordPeace x = State.busy();
        for (int i = x.count(11) / 20; i < 35; i++) {
            blanks(x);
        }
        int[] before = State.of(x);
        Check.due("full", x.feed(0, 0, 0, 0, 0), -1);
        State.same("a refused feed", State.of(x), before);
    }

    // Promise 3: "The tape's first n bytes (it is empty then) are a CITY"
    private static void cityTakesTheFirstBytes() {
        SwordPeace x = new SwordPeace();
        Check.feed(x, "patience 7;patience ");
        Check.due("the first 11 of 20", x.city(11), 0);
        Check.due("patience", x.count(3), 7);
        Check.due("all of the tape is gone", x.count(11), 0);
        Check.feed(x, "patience 7;patience ");
        Check.due("12 of them are too many", x.city(12), 1);
        Check.due("a word that ends with the text", x.fault(), 11);
        Check.feed(x, "patience 78;");
        Check.due("a number that ends with the text", x.city(10), 1);
        Check.due("at its end", x.fault(), 10);
        Check.due("empty with a fault, too", x.count(11), 0);
        Check.due("none of an empty tape", x.city(0), 0);
        Check.feed(x, "?");
        Check.due("none of 20", x.city(0), 0);
        Check.due("empty then, too", x.count(11), 0);
    }

    // Promise 3: "IllegalArgumentException: the tape has not so many, n below 0 (nothing changes)."
    private static void cityNeedsSoManyBytes() {
        SwordPeace x = new SwordPeace();
        Check.raises("1 of none", Check.ILLEGAL, () -> x.city(1));
        Check.raises("-1 of none", Check.ILLEGAL, () -> x.city(-1));
        State.raises("41 of 40", Check.ILLEGAL, y -> y.city(41));
        State.raises("700 of 40", Check.ILLEGAL, y -> y.city(700));
        State.raises("701 of 40", Check.ILLEGAL, y -> y.city(701));
        State.raises("-1 of 40", Check.ILLEGAL, y -> y.city(-1));
        State.raises("greatest of 40", Check.ILLEGAL, y -> y.city(Integer.MAX_VALUE));
        State.raises("least of 40", Check.ILLEGAL, y -> y.city(Integer.MIN_VALUE));
        Check.due("40 of 40", State.busy().city(40), 0);
        for (int i = 0; i < 35; i++) {
            blanks(x);
        }
        Check.raises("701 of 700", Check.ILLEGAL, () -> x.city(701));
        Check.due("still 700", x.count(11), 700);
        Check.due("700 of 700", x.city(700), 0);
    }

    // Promise 4: "The place of the latest city()'s FAULT; NONE without."
    private static void faultIsTheLatestCitys() {
        SwordPeace x = new SwordPeace();
        Check.due("without a city", x.fault(), -1);
        Check.tell(x, "feud 0 0;");
        Check.due("a fault", x.fault(), 7);
        Check.tell(x, "  ?");
        Check.due("another one", x.fault(), 2);
        Check.due("asking changes nothing", x.fault(), 2);
        Check.due("a right one", Check.tell(x, "feud 0 1;"), 0);
        Check.due("is without", x.fault(), -1);
        Check.tell(x, "?");
        x.days(1);
        x.undo();
        Check.due("acts leave it", x.fault(), 0);
    }

    // Promise 3: "or the FAULT (all stays, but STATUS)."
    private static void aFaultLeavesAllButStatus() {
        String[] texts = {"feud 0 1;swallower 9 9;blade 0 1 1;patience 1;rises 1;cools 1;?", "blade 0 1 1;".repeat(11),
            "feud 6 1;", "feud 1 1;", "patience 9;patience 9;", "rises within;"};
        int[] numbers = {1, 2, 2, 4, 5, 3};
        int[] places = {62, 120, 5, 7, 11, 6};
        for (int i = 0; i < texts.length; i++) {
            SwordPeace x = State.busy(texts[i]);
            SwordPeace twin = State.busy(texts[i]);
            Check.due("a fault by " + texts[i], x.city(texts[i].length()), numbers[i]);
            int[] due = State.of(twin);
            due[State.STATUS]++;
            due[State.TAPE] = 0;
            due[due.length - State.FROM_FAULT] = places[i];
            State.same("behind " + texts[i], State.of(x), due);
            for (int acts = twin.count(9); acts > 0; acts--) {
                Check.due("acts stay", x.undo(), twin.undo());
            }
            Check.due("the image stays", x.restore(), true);
            twin.restore();
            Check.due("its day", x.count(4), twin.count(4));
        }
    }

    // Promise 3: "all anew: 0"; "ACTS, what is SEEN, the image are gone."
    private static void aCityIsAllAnew() {
        SwordPeace x = State.busy();
        x.city(0);
        int[] due = {0, 0, 0, 50, 0, 0, 0, 0, 0, 0, 0, 0, 1, 1, 1};
        for (int what = 0; what < due.length; what++) {
            Check.due("an empty city, count " + what, x.count(what), due[what]);
        }
        Check.due("no acts", x.undo(), -1);
        Check.due("no image", x.restore(), false);
        Check.due("no feuds", x.camps(), 0);
        Check.raises("no blades", Check.NO_SUCH, () -> x.blade(0, 0));
        Check.raises("no swallowers", Check.NO_SUCH, () -> x.throat(0, 0));
        String text = "swallower 9 0;blade 0 5 60;blade 1 2 20;";
        SwordPeace y = State.busy(text);
        Check.due("another city", y.city(text.length()), 0);
        Check.due("all are out", y.count(5), 3);
        Check.due("anger as told", y.blade(0, 2), 60);
        Check.due("room as told", y.throat(0, 0), 9);
        Check.due("no rule of before", y.blade(0, 6), 0);
        y.swallow(0, 0);
        Check.due("nor here", y.blade(0, 6), 2);
    }

    // Promise 3: "all anew", however much was told, or broken off by a FAULT, before
    private static void aCityIsAllAnewAfterMany() {
        String full = NINE_FEUDS + "swallower 9 2;".repeat(5) + "blade 1 3 9;".repeat(10) + "patience 7;cools 5;rises 6;";
        String small = "feud 0 1;swallower 8 0;blade 0 2 30;blade 1 3 40;blade 2 4 50;";
        String other = "feud 0 1;swallower 8 0;blade 2 2 30;blade 0 3 40;blade 3 4 50;";
        SwordPeace x = new SwordPeace();
        for (int i = 0; i < 3; i++) {
            Check.due("as much as may be, time " + i, Check.tell(x, full), 0);
        }
        tellsAnew("after three", x, small, 0);
        tellsAnew("other houses", x, other, 0);
        tellsAnew("and the first ones", x, small, 0);
        for (int i = 1; i <= 2; i++) {
            Check.due("as much, then a fault", Check.tell(x, full + "?"), 1);
            tellsAnew("after a fault", x, other, i);
        }
    }

    private static void tellsAnew(String when, SwordPeace x, String text, int faults) {
        Check.due(when + ": city", Check.tell(x, text), 0);
        int[] due = State.of(Check.city(text));
        due[State.STATUS] = faults;
        State.same(when, State.of(x), due);
    }

    private static void longRulesAgainAndAgain() {
        String text = "blade 0 1 9;rises 0" + "+1+0".repeat(85) + ";";
        SwordPeace x = new SwordPeace();
        for (int i = 0; i < 20; i++) {
            Check.due("a long rule, time " + i, Check.tell(x, text), 0);
            Check.due("is worked out, time " + i, x.blade(0, 6), 85);
        }
    }

    // "A TEXT of at most 700 bytes tells it."
    private static void aTextOf700Bytes() {
        String line = "patience 9;";
        String full = " ".repeat(700 - line.length()) + line;
        SwordPeace x = new SwordPeace();
        Check.due("a full text", Check.tell(x, full), 0);
        Check.due("its last bytes count", x.count(3), 9);
        Check.due("too soon by one", Check.tell(x, " ".repeat(690) + "patience 9"), 1);
        Check.due("its length", x.fault(), 700);
        Check.due("a fault at the last byte", Check.tell(x, " ".repeat(699) + "?"), 1);
        Check.due("its place", x.fault(), 699);
        Check.due("a word up to the last byte", Check.tell(x, "a".repeat(700)), 1);
        Check.due("its first byte", x.fault(), 0);
        Check.due("digits up to the last byte", Check.tell(x, "patience " + "1".repeat(691)), 2);
        Check.due("their first byte", x.fault(), 9);
    }

    // "TOKENS: words (a .. z, the longest row), NUMBERS (1 to 4 digits), signs ; ( ) + - * / < = ;"
    private static void tokens() {
        Check.fine("feud0 1;feud 2 3;");
        Check.fine("blade0 1 0;swallower1 0;");
        Check.fault("feudfeud 0 1;", 1, 0);
        Check.fault("feud0 1;feudz 2 3;", 1, 8);
        Check.fault("feua 0 1;", 1, 0);
        Check.fault("feu 0 1;", 1, 0);
        Check.fault("zeud 0 1;", 1, 0);
        for (char c : new char[] {'a' - 1, 'z' + 1, 'A', 'Z', '_', '0' - 2, '9' + 1, '>', '!', ',', '.', '[', ']', '|', '\'', 127, 128, 255, 0}) {
            Check.fault("rises " + c + "1;", 1, 6);
            Check.fault("rises 1" + c + ";", 1, 7);
            Check.fault("rises anger" + c + ";", 1, 11);
        }
        for (char c : new char[] {'+', '-', '*', '/', '<', '='}) {
            Check.fine("rises 1" + c + "1;");
            Check.fine("rises 1 " + c + "\n1 ;");
        }
        Check.fine("rises (1);");
        Check.fine("rises 0;cools 9;");
        Check.fine("rises anger+0009;");
    }

    // "blanks (32, 10) between them count for nothing."
    private static void blanks() {
        Check.fine("\n\n  patience\n 9 \n;\n ");
        Check.fine("patience 9 ; rises ( 1 + 2 ) ;");
        for (char c : new char[] {9, 11, 13, 31, 33, 0, 160}) {
            Check.fault("patience" + c + "9;", 1, 8);
            Check.fault("patience 9;" + c, 1, 11);
        }
        Check.fault("pat ience 9;", 1, 0);
        Check.fault("patience 1 2;", 1, 11);
        SwordPeace x = Check.city("patience 12;");
        Check.due("two digits are one number", x.count(3), 12);
        Check.fault("patience 1\n2;", 1, 11);
    }

    // "CITY: LINE*."
    private static void nothingIsACity() {
        Check.fine("");
        Check.fine(" ");
        Check.fine("\n");
        Check.fault(";", 1, 0);
        Check.fault("patience 9;;", 1, 11);
    }

    // "1 .. (the text's length where it ends too soon)"
    private static void linesThatEndTooSoon() {
        String[][] lines = {{"feud", "0", "1", ";"}, {"swallower", "1", "0", ";"}, {"blade", "0", "1", "0", ";"},
            {"patience", "9", ";"}, {"cools", "1", ";"}, {"rises", "1", ";"}};
        for (String[] line : lines) {
            StringBuilder text = new StringBuilder("blade 5 1 0;");
            for (int i = 0; i < line.length - 1; i++) {
                text.append(line[i]);
                Check.fault(text.toString(), 1, text.length());
                text.append(' ');
                Check.fault(text.toString(), 1, text.length());
                Check.fault(text + "\n  ", 1, text.length() + 3);
            }
            Check.fine(text + ";");
        }
    }

    // "1 a TOKEN that can't stand there, or is none"
    private static void wrongTokensInLines() {
        String[] fronts = {"feud ", "feud 0 ", "swallower ", "swallower 1 ", "blade ", "blade 0 ", "blade 0 1 ", "patience "};
        for (String front : fronts) {
            for (String token : new String[] {";", "(", ")", "+", "-", "*", "/", "<", "=", "a", "feud", "not", "?", "" + (char) 255}) {
                Check.fault(front + token + " 1 1 1;", 1, front.length());
            }
        }
        String[] lines = {"feud 0 1 ", "swallower 1 0 ", "blade 0 1 0 ", "patience 9 ", "cools 1 ", "rises 1 "};
        for (String line : lines) {
            for (String token : new String[] {"1", "12345", "(", ")", "a", "feud", "anger", "?", "" + (char) 0}) {
                Check.fault(line + token + ";", 1, line.length());
            }
        }
        for (String token : new String[] {"1", "12345", "(", ")", "+", "a", "anger", "or", "not", "house", "?", "" + (char) 200}) {
            Check.fault(token + " 0 1;", 1, 0);
            Check.fault("feud 0 1; " + token, 1, 10);
        }
    }

    /** At a place the least and the greatest number may stand, those beside them not. */
    private static void number(String front, int least, int most, String back) {
        Check.fine(front + least + back);
        Check.fine(front + most + back);
        Check.fault(front + (most + 1) + back, 2, front.length());
        Check.fault(front + "9999" + back, 2, front.length());
        Check.fault(front + "10000" + back, 2, front.length());
        if (least > 0) {
            Check.fault(front + (least - 1) + back, 2, front.length());
            Check.fault(front + "0000" + back, 2, front.length());
        }
        Check.fine(front + String.format("%04d", most) + back);
        Check.fault(front + String.format("%05d", most) + back, 2, front.length());
    }

    // "HOUSES 0 to 5"
    private static void houses() {
        number("feud ", 0, 5, " 3;");
        number("feud 3 ", 0, 5, ";");
        number("blade ", 0, 5, " 1 1;");
        SwordPeace x = Check.city("feud 5 0;blade 5 1 1;");
        Check.due("feud 0 5", x.feud(0, 5), true);
        Check.due("house 5", x.blade(0, 0), 5);
    }

    // "FEUDS (at most 9)"; "2 .. the first TOKEN of the 10th FEUD"
    private static void feuds() {
        Check.fine(NINE_FEUDS);
        Check.due("nine", Check.city(NINE_FEUDS).count(0), 9);
        int at = NINE_FEUDS.length();
        Check.fault(NINE_FEUDS + "feud 2 3;", 2, at);
        Check.fault(NINE_FEUDS + "feud 0 1;", 2, at);
        Check.fault(NINE_FEUDS + "feud 9 9;", 2, at);
        Check.fault(NINE_FEUDS + "  feud", 2, at + 2);
        Check.fault(NINE_FEUDS + "feu", 1, at);
        Check.fine(NINE_FEUDS + "patience 9;");
        SwordPeace x = new SwordPeace();
        Check.tell(x, NINE_FEUDS + "feud");
        Check.due("anew nine may stand", Check.tell(x, NINE_FEUDS), 0);
    }

    // "SWALLOWERS 0, 1 .. (at most 5): ROOM (1 to 99), HICCUPS (0 none, or 1 to 30 ..)"; "the 6th SWALLOWER"
    private static void swallowers() {
        number("swallower ", 1, 99, " 0;");
        number("swallower 1 ", 0, 30, ";");
        SwordPeace x = Check.city("swallower 1 0;swallower 99 30;swallower 7 1;swallower 8 2;swallower 9 3;");
        Check.due("five", x.count(1), 5);
        int[] rooms = {1, 99, 7, 8, 9};
        int[] hiccups = {0, 30, 1, 2, 3};
        for (int s = 0; s < 5; s++) {
            Check.due("room of " + s, x.throat(s, 0), rooms[s]);
            Check.due("hiccups of " + s, x.throat(s, 1), hiccups[s]);
        }
        Check.raises("no sixth", Check.NO_SUCH, () -> x.throat(5, 0));
        String five = "swallower 1 0;".repeat(5);
        Check.fault(five + "swallower 1 0;", 2, five.length());
        Check.fault(five + "\nswallower;", 2, five.length() + 1);
        Check.fault(five + "swallowers", 1, five.length());
    }

    // "BLADES 0, 1 .. (at most 10): a HOUSE, LENGTH (1 to 40), ANGER (0 to 99)"; "the 11th BLADE"
    private static void blades() {
        number("blade 0 ", 1, 40, " 1;");
        number("blade 0 1 ", 0, 99, ";");
        SwordPeace x = Check.city("blade 0 1 0;".repeat(9) + "blade 5 40 99;");
        Check.due("ten", x.count(2), 10);
        Check.due("all ten are out", x.count(5), 1023);
        Check.due("the last one's house", x.blade(9, 0), 5);
        Check.due("the last one's length", x.blade(9, 1), 40);
        Check.due("the last one's anger", x.blade(9, 2), 99);
        Check.due("the first one's length", x.blade(0, 1), 1);
        Check.due("the first one's anger", x.blade(0, 2), 0);
        Check.raises("no eleventh", Check.NO_SUCH, () -> x.blade(10, 0));
        String ten = "blade 0 1 0;".repeat(10);
        Check.fault(ten + "blade 0 1 0;", 2, ten.length());
        Check.fault(ten + " blade", 2, ten.length() + 1);
        Check.fault(ten + "blades", 1, ten.length());
    }

    // "PATIENCE (1 to 99; 50 without)."
    private static void patience() {
        number("patience ", 1, 99, ";");
        Check.due("1", Check.city("patience 1;").count(3), 1);
        Check.due("99", Check.city("patience 99;").count(3), 99);
        Check.due("without", Check.city("feud 0 1;").count(3), 50);
        SwordPeace x = Check.city("patience 1;");
        Check.tell(x, "feud 0 1;");
        Check.due("without, anew", x.count(3), 50);
    }

    // "2 .. a NUMBER of 5 digits or more, or (not in an EXPR) not as told"
    private static void digits() {
        Check.fine("rises 9999;");
        Check.fine("rises 0000;");
        Check.fault("rises 10000;", 2, 6);
        Check.fault("rises 00000;", 2, 6);
        Check.fault("rises 1+00001;", 2, 8);
        Check.fault("cools (99999999999999999999);", 2, 7);
        Check.fault("rises 4294967297;", 2, 6);
        Check.fault("feud 4294967296 1;", 2, 5);
        Check.fault("feud 0 4294967297;", 2, 7);
        Check.fault("patience 4294967305;", 2, 9);
        Check.fault("blade 0 1 00000;", 2, 10);
        Check.fault("swallower 1 00000;", 2, 12);
    }

    // "4 the second HOUSE of a FEUD that is the first one, or has one with it"
    private static void secondHouse() {
        for (int h = 0; h < 6; h++) {
            Check.fault("feud " + h + " " + h + ";", 4, 7);
            int other = (h + 1) % 6;
            Check.fault("feud " + h + " " + other + ";feud " + other + " " + h + ";", 4, 16);
            Check.fault("feud " + h + " " + other + ";feud " + h + " " + other, 4, 16);
        }
        Check.fault("feud 0 0001;feud 0001 0", 4, 22);
        Check.fine("feud 0 1;feud 0 2;feud 1 2;");
        SwordPeace x = new SwordPeace();
        Check.tell(x, "feud 0 1;feud 0 1;");
        Check.due("a fault leaves no feud for the next text", Check.tell(x, "feud 0 1;"), 0);
        Check.due("nor does a city", Check.tell(x, "feud 0 1;"), 0);
    }

    // "5 a second 'patience', 'cools', 'rises'."
    private static void toldTwice() {
        for (String word : new String[] {"patience", "cools", "rises"}) {
            String line = word + " 1;";
            Check.fault(line + line, 5, line.length());
            Check.fault(line + word, 5, line.length());
            Check.fault(line + " " + word + " ?", 5, line.length() + 1);
            Check.fault(line + "blade 0 1 1;" + word, 5, line.length() + 12);
            Check.fault(line + word + "s", 1, line.length());
            SwordPeace x = new SwordPeace();
            Check.tell(x, line + "?");
            Check.due("a fault forgets " + word, Check.tell(x, line), 0);
            Check.due("a city is anew, " + word, Check.tell(x, line), 0);
        }
        Check.fine("cools 1;rises 1;patience 1;");
        Check.fine("rises 0;cools 0;");
        Check.fault("patience 50;patience 50;", 5, 12);
    }

    private static void wherePartsMustStand() {
        String[] fronts = {"cools ", "cools (", "cools not ", "cools 1 or ", "cools 1 and ", "cools 1<", "cools 1=",
            "cools 1+", "cools 1-", "cools 1*", "cools 1/", "cools 1;rises ", "cools 1;rises (1)+"};
        for (String front : fronts) {
            int at = front.length();
            for (String token : new String[] {"", ";", ")", "+", "-", "*", "/", "<", "=", "?", "" + (char) 255}) {
                Check.fault(front + token, 1, at);
            }
            Check.fault(front + " \n", 1, at + 2);
            Check.fault(front + "12345;", 2, at);
            for (String token : new String[] {"z", "or", "and", "blade", "cools", "angers", "ange", "Anger".substring(1)}) {
                Check.fault(front + token + ";", 3, at);
            }
            boolean notMayStand = front.endsWith(" ") || front.equals("cools (");
            Check.fault(front + "not ", notMayStand ? 1 : 3, notMayStand ? at + 4 : at);
        }
    }

    private static void whereJoinsMustStand() {
        String[] fronts = {"cools 1", "cools anger", "cools (1)", "cools not 1", "cools 1 or 1", "cools 1+1*1"};
        for (String front : fronts) {
            for (String token : new String[] {"(", ")", "?", " 12345", " anger", " not", " blade", ""}) {
                Check.fault(front + token, 1, front.length() + (token.startsWith(" ") ? 1 : 0));
            }
            Check.fault(front + " 1;", 1, front.length() + 1);
        }
        Check.fault("cools (1;", 1, 8);
        Check.fault("cools (1", 1, 8);
        Check.fault("cools ((1);", 1, 10);
        Check.fault("cools (1));", 1, 9);
        Check.fault("cools (1 1);", 1, 9);
    }

    // "NOT: 'not' NOT | SUM [('<' | '=') SUM]."
    private static void oneTest() {
        for (String first : new String[] {"<", "="}) {
            Check.fine("cools 1" + first + "1;");
            for (String second : new String[] {"<", "="}) {
                Check.fault("cools 1" + first + "1" + second + "1;", 1, 9);
                Check.fault("cools 1" + first + second + "1;", 1, 8);
                Check.fine("cools (1" + first + "1)" + second + "1;");
                Check.fine("cools 1" + first + "1 and 1" + second + "1;");
                Check.fine("cools 1" + first + "(1" + second + "1);");
            }
        }
    }

    // "3 any word where a PART must stand that is no VALUE of this EXPR"
    private static void valuesOfRules() {
        for (String value : new String[] {"anger", "length", "day", "foes"}) {
            Check.fine("cools " + value + ";rises " + value + ";");
        }
        for (String value : new String[] {"within", "above"}) {
            Check.fine("rises 1;cools " + value + ";");
            Check.fault("cools " + value + ";rises " + value + ";", 3, 13 + value.length());
            Check.fault("rises " + value + ";", 3, 6);
            Check.fault("rises (1+" + value + ");", 3, 9);
        }
        for (String word : new String[] {"feud", "swallower", "blade", "patience", "cools", "rises", "house", "room", "a", "z", "days"}) {
            Check.fault("rises " + word + ";", 3, 6);
        }
    }

    // "2 .. the first TOKEN .. of an EXPR within 6 others (a NUMBER, any word, a parenthesis)"
    private static void depth() {
        Check.fine("cools (((((1)))));");
        Check.fine("cools (((((not anger<1 or 0)))));");
        for (String token : new String[] {"1", "0", "9999", "anger", "not", "z", "or", "feud", "(", "12345"}) {
            Check.fault("cools ((((((" + token + "))))));", 2, 12);
            Check.fault("cools 1;rises ((((((" + token, 2, 20);
            Check.fault("cools (((((( " + token, 2, 13);
        }
        for (String token : new String[] {"", ";", ")", "+", "*", "<", "=", "?", "" + (char) 255}) {
            Check.fault("cools ((((((" + token, 1, 12);
        }
        Check.fine("cools (1)+(1)+(1)+(1)+(1)+(1)+(1)+(1);");
        Check.fine("cools (((((1)))))*(((((1)))));rises (((((1)))));");
        Check.fine("cools 1+(2*(not (3<(4 or (5)))));");
        Check.fault("cools 1+(2*(not (3<(4 or (5 and (6))))));", 2, 33);
        Check.fault("cools 1+(((((1)))))+((((((1))))));", 2, 26);
    }

    // "2 .. the seventh 'not' side by side"
    private static void nots() {
        Check.fine("cools " + SIX_NOTS + "1;");
        Check.fault("cools " + SIX_NOTS + "not 1;", 2, 30);
        Check.fault("cools " + SIX_NOTS + "not", 2, 30);
        Check.fault("cools " + SIX_NOTS + "not not not 1;", 2, 30);
        Check.fault("cools " + SIX_NOTS + "?", 1, 30);
        Check.fault("cools " + SIX_NOTS + "z", 3, 30);
        Check.fine("cools " + SIX_NOTS + "(" + SIX_NOTS + "1);");
        Check.fine("cools " + SIX_NOTS + "1 and " + SIX_NOTS + "1 or " + SIX_NOTS + "1;rises " + SIX_NOTS + "1;");
        Check.fault("cools (1 or " + SIX_NOTS + "\nnot 1);", 2, 37);
    }

    // "FAULTS, the first along the text, at a TOKEN's first byte"
    private static void firstAlongTheText() {
        Check.fault("feud 6 6;?", 2, 5);
        Check.fault("? feud 6 6;", 1, 0);
        Check.fault("blade 6 0 100;", 2, 6);
        Check.fault("blade 5 0 100;", 2, 8);
        Check.fault("blade 5 1 100;", 2, 10);
        Check.fault("feud 0 0 ?", 4, 7);
        Check.fault("rises z+12345;", 3, 6);
        Check.fault("rises 12345+z;", 2, 6);
        Check.fault("patience 100 ?", 2, 9);
        Check.fault("rises anger + zzzzz;", 3, 14);
        Check.fault("feud 0   777;", 2, 9);
    }

    // "of one TOKEN the least"
    private static void leastOfOneToken() {
        Check.fault(NINE_FEUDS + "feud 0 1;", 2, NINE_FEUDS.length());
        Check.fault("rises ((((((within", 2, 12);
        Check.fault("rises ((((((z", 2, 12);
        Check.fault("rises ((((((" + SIX_NOTS + "not", 2, 12);
        Check.fault("rises ((((((99999", 2, 12);
        Check.fault("rises (((((()", 1, 12);
        Check.fault("feud 6 6;", 2, 5);
        Check.fault("feud 0 99999;", 2, 7);
    }

    private static void longRules() {
        String sum = "rises " + "1+".repeat(346) + "1;";
        SwordPeace x = new SwordPeace();
        Check.due("700 bytes of a sum", Check.tell(x, sum), 0);
        String nots = ("rises " + (SIX_NOTS + "1 and ").repeat(22) + "1").trim() + ";";
        Check.due("many nots", Check.tell(x, nots), 0);
        SwordPeace y = Check.city("blade 0 1 0;rises " + "1+".repeat(60) + "1;cools " + "1+".repeat(70) + "1;swallower 1 0;");
        Check.due("61", y.blade(0, 6), 61);
        y.swallow(0, 0);
        Check.due("71", y.blade(0, 6), 71);
        String waiting = "0 or 1 and 1<1+1*";
        String most = "blade 0 1 0;rises " + (waiting + "(").repeat(5) + waiting;
        Check.due("as many operands as can wait", Check.city(most + "1)))));").blade(0, 6), 1);
        Check.due("by the last one of them", Check.city(most + "0)))));").blade(0, 6), 0);
    }
}
