import java.util.NoSuchElementException;

/** Sword swallowers keep the peace between houses at feud; README.md tells how to use it. */
public final class SwordPeace {
    public static final int NONE = -1;

    private static final int HOUSES = 6;
    private static final int MOST_BLADES = 10;
    private static final int MOST_SWALLOWERS = 5;
    private static final int MOST_FEUDS_TOLD = 9;
    private static final int MOST_ACTS = 40;
    private static final int MOST_SEEN = 8;
    private static final int TAPE_ROOM = 700;
    private static final int FEED_BYTES = 20;
    private static final int MOST_ANGER = 99;
    private static final int MOST_ROOM = 99;
    private static final int LAST_DAY = 999;
    private static final int MOST_AHEAD = 60;
    private static final int ACT_AT_MOST = 20;

    private static final int TEXTS = 0;
    private static final int ACTS = 1;
    private static final int SIGHTS = 2;

    /** Where a BLADE is: OUT, in SWALLOWER k as k + 1, or AT REST. */
    private static final int OUT = 0;
    private static final int AT_REST = MOST_SWALLOWERS + 1;

    private final int[] tape = new int[TAPE_ROOM];
    private int onTape;
    private int faultPlace = NONE;
    private City city;
    private City spare;
    private final Reader reader;
    private final Chronicle now;
    private final Chronicle image;
    private boolean imageKept;
    private final Forecast forecast;
    private final Packing packing;
    private final Doubt doubt;
    private final Quarrels quarrels;

    public SwordPeace() {
        city = new City();
        spare = new City();
        reader = new Reader(new Tokens(tape), spare);
        now = new Chronicle(city);
        image = new Chronicle(city);
        Scene dream = new Scene(city);
        forecast = new Forecast(now.scene, dream);
        packing = new Packing(now.scene);
        doubt = new Doubt(now.scene, now.sights, dream);
        quarrels = new Quarrels(now.scene.cells);
    }

    public int feed(int a, int b, int c, int d, int e) {
        if (onTape > TAPE_ROOM - FEED_BYTES) {
            return NONE;
        }
        feedNumber(a);
        feedNumber(b);
        feedNumber(c);
        feedNumber(d);
        feedNumber(e);
        return onTape;
    }

    private void feedNumber(int number) {
        for (int shift = 24; shift >= 0; shift -= 8) {
            if (onTape < TAPE_ROOM) {
                tape[onTape] = (number >>> shift) & 255;
                onTape++;
            }
        }
    }

    public int city(int n) throws IllegalArgumentException {
        if (n < 0 || n > onTape) {
            throw new IllegalArgumentException();
        }
        int fault = reader.tell(n, spare);
        onTape = 0;
        if (fault != 0) {
            faultPlace = reader.place;
            now.refused[TEXTS]++;
            return fault;
        }
        faultPlace = NONE;
        City told = spare;
        spare = city;
        city = told;
        now.begin(told);
        imageKept = false;
        return 0;
    }

    public int fault() {
        return faultPlace;
    }

    public int count(int what) throws NoSuchElementException {
        switch (what) {
            case 0: return quarrels.howMany();
            case 1: return city.swallowers;
            case 2: return city.blades;
            case 3: return city.patience;
            case 4: return now.scene.cells[Scene.DAY];
            case 5: return now.scene.bladesOut();
            case 6: return now.scene.bladesIn();
            case 7: return now.scene.bladesAtRest();
            case 8: return now.scene.cells[Scene.FIGHTS];
            case 9: return now.actsKept;
            case 10: return now.sights.many;
            case 11: return onTape;
            case 12: return now.refused[TEXTS];
            case 13: return now.refused[ACTS];
            case 14: return now.refused[SIGHTS];
            default: throw new NoSuchElementException();
        }
    }

    public int blade(int blade, int what) throws NoSuchElementException {
        needBlade(blade);
        Scene scene = now.scene;
        switch (what) {
            case 0: return city.house[blade];
            case 1: return city.length[blade];
            case 2: return scene.cells[blade];
            case 3: return scene.state(blade);
            case 4: return scene.swallowerOf(blade);
            case 5: return scene.foesNow(blade);
            case 6: return scene.changeNow(blade);
            default: throw new NoSuchElementException();
        }
    }

    public int throat(int swallower, int what) throws NoSuchElementException {
        needSwallower(swallower);
        Scene scene = now.scene;
        switch (what) {
            case 0: return scene.cells[Scene.ROOM + swallower];
            case 1: return city.hiccups[swallower];
            case 2: return scene.left(swallower);
            case 3: return Integer.bitCount(scene.bladesAt(swallower + 1));
            case 4: return scene.top(swallower);
            default: throw new NoSuchElementException();
        }
    }

    public boolean feud(int house, int other) throws NoSuchElementException {
        needHouse(house);
        needHouse(other);
        return quarrels.between(house, other);
    }

    public int days(int many) {
        Scene scene = now.scene;
        if (many < 1 || many > ACT_AT_MOST || scene.cells[Scene.DAY] + many > LAST_DAY) {
            return refuse(ACTS);
        }
        now.keepAct();
        scene.passDays(many);
        return scene.cells[Scene.DAY];
    }

    public int swallow(int blade, int swallower) throws NoSuchElementException {
        needBlade(blade);
        needSwallower(swallower);
        Scene scene = now.scene;
        if (!scene.isOut(blade) || !scene.hasRoom(swallower, blade)) {
            return refuse(ACTS);
        }
        now.keepAct();
        scene.putInto(blade, swallower);
        return scene.left(swallower);
    }

    public int draw(int swallower) throws NoSuchElementException {
        needSwallower(swallower);
        int top = now.scene.top(swallower);
        if (top == NONE) {
            return refuse(ACTS);
        }
        now.keepAct();
        now.scene.letTopOut(swallower);
        return top;
    }

    public int broth(int swallower, int more) throws NoSuchElementException {
        needSwallower(swallower);
        if (more < 1 || more > ACT_AT_MOST) {
            return refuse(ACTS);
        }
        now.keepAct();
        int[] cells = now.scene.cells;
        int room = Math.min(MOST_ROOM, cells[Scene.ROOM + swallower] + more);
        cells[Scene.ROOM + swallower] = room;
        return room;
    }

    public boolean make(int house, int other, boolean feud) throws NoSuchElementException {
        needHouse(house);
        needHouse(other);
        if (house == other || quarrels.between(house, other) == feud) {
            refuse(ACTS);
            return false;
        }
        now.keepAct();
        now.scene.turnFeud(house, other);
        return true;
    }

    public int undo() {
        if (now.actsKept == 0) {
            return NONE;
        }
        now.takeActBack();
        return now.actsKept;
    }

    public int then(int blade, int days, int what) throws NoSuchElementException, IllegalArgumentException {
        needBlade(blade);
        needWhat(what, 1);
        needAhead(days);
        Scene later = forecast.after(days);
        return what == 0 ? later.cells[blade] : later.state(blade);
    }

    public int peace() {
        return forecast.firstFight();
    }

    public int fights(int days) throws IllegalArgumentException {
        needAhead(days);
        forecast.after(days);
        return forecast.fightsDreamt();
    }

    public int rests(int blade) throws NoSuchElementException {
        needBlade(blade);
        return forecast.daysToRest(blade);
    }

    public int worst(int days) throws IllegalArgumentException {
        needAhead(days);
        return forecast.worstHouse(days);
    }

    public int takeIn(int blade) throws NoSuchElementException {
        if (blade != NONE) {
            needBlade(blade);
        }
        return blade == NONE ? packing.mostAnger() : packing.bestSwallower(blade);
    }

    public int throats() {
        return packing.fewestSwallowers();
    }

    public int toDraw(int blade) throws NoSuchElementException {
        needBlade(blade);
        Scene scene = now.scene;
        return scene.isIn(blade) ? scene.bladesAbove(blade) | (1 << blade) : 0;
    }

    public int toSwallow(int what) throws NoSuchElementException {
        needWhat(what, 1);
        forecast.seekCalmingBlade();
        return what == 0 ? forecast.calmingBlade : forecast.delay;
    }

    public int camps() {
        return quarrels.firstCamp();
    }

    public int couples() {
        return quarrels.mostCouples();
    }

    public int grudge(int house) throws NoSuchElementException {
        needHouse(house);
        int anger = 0;
        for (int b = 0; b < city.blades; b++) {
            if (city.house[b] == house) {
                anger += now.scene.cells[b];
            }
        }
        return anger;
    }

    public int foes(int house, int other) throws NoSuchElementException {
        needHouse(house);
        needHouse(other);
        return now.scene.cells[Scene.FEUD + house] & now.scene.cells[Scene.FEUD + other];
    }

    public int parts() {
        return quarrels.parties();
    }

    public int calm(int days) throws IllegalArgumentException {
        needAhead(days);
        return forecast.after(days).bladesAtRest();
    }

    public int lacks(int blade) throws NoSuchElementException {
        needBlade(blade);
        Scene scene = now.scene;
        if (!scene.isOut(blade) || city.swallowers == 0) {
            return NONE;
        }
        int most = 0;
        for (int s = 0; s < city.swallowers; s++) {
            most = Math.max(most, scene.left(s));
        }
        return Math.max(0, city.length[blade] - most);
    }

    public int above(int blade) throws NoSuchElementException {
        needBlade(blade);
        Scene scene = now.scene;
        return scene.isIn(blade) ? Integer.bitCount(scene.bladesAbove(blade)) : NONE;
    }

    public int hiccup(int swallower) throws NoSuchElementException {
        needSwallower(swallower);
        int every = city.hiccups[swallower];
        if (every <= 0) {
            return NONE;
        }
        return every - now.scene.cells[Scene.DAY] % every;
    }

    public int see(int blade, int days, int anger) throws NoSuchElementException {
        needBlade(blade);
        boolean told = days >= 0 && days <= Sights.FARTHEST && anger >= 0 && anger <= MOST_ANGER;
        if (!told || now.sights.many >= MOST_SEEN) {
            return refuse(SIGHTS);
        }
        now.sights.note(blade, days, anger);
        return now.sights.many;
    }

    public int wrong(int what) throws NoSuchElementException {
        needWhat(what, 2);
        if (what == 2) {
            return doubt.fitsAsItIs() ? 1 : 0;
        }
        return what == 0 ? doubt.howMany() : doubt.first();
    }

    public int look(int what) throws NoSuchElementException {
        needWhat(what, 1);
        doubt.seekNext();
        return what == 0 ? doubt.nextBlade : doubt.unlike;
    }

    public void forget() {
        now.sights.many = 0;
    }

    public int game(int house, int other, int what) throws NoSuchElementException, IllegalArgumentException {
        needHouse(house);
        needHouse(other);
        needWhat(what, 1);
        if (!quarrels.between(house, other)) {
            throw new IllegalArgumentException();
        }
        forecast.play(house, other);
        return what == 0 ? forecast.restingCouples : forecast.firstCouple;
    }

    public int summer(int seed, int n, int what) throws NoSuchElementException, IllegalArgumentException {
        needWhat(what, 2);
        needAhead(n);
        Scene end = forecast.summerEnd(seed, n);
        switch (what) {
            case 0: return forecast.fightsDreamt();
            case 1: return Integer.bitCount(end.bladesAtRest());
            default: return end.angerOfAll();
        }
    }

    public void image() {
        image.copy(now);
        imageKept = true;
    }

    public boolean restore() {
        if (imageKept) {
            now.copy(image);
        }
        return imageKept;
    }

    private int refuse(int kind) {
        if (kind >= 0 && kind < now.refused.length) {
            now.refused[kind]++;
        }
        return NONE;
    }

    private void needBlade(int blade) {
        if (blade < 0 || blade >= city.blades) {
            throw new NoSuchElementException();
        }
    }

    private void needSwallower(int swallower) {
        if (swallower < 0 || swallower >= city.swallowers) {
            throw new NoSuchElementException();
        }
    }

    private void needHouse(int house) {
        if (house < 0 || house >= HOUSES) {
            throw new NoSuchElementException();
        }
    }

    private void needWhat(int what, int most) {
        if (what < 0 || what > most) {
            throw new NoSuchElementException();
        }
    }

    private void needAhead(int days) {
        if (days < 0 || days > MOST_AHEAD) {
            throw new IllegalArgumentException();
        }
    }

    /** What a text tells, and no day changes. */
    private static final class City {
        static final int USUAL_PATIENCE = 50;

        final int[] house = new int[MOST_BLADES];
        final int[] length = new int[MOST_BLADES];
        final int[] anger = new int[MOST_BLADES];
        final int[] bladesOf = new int[HOUSES];
        final int[] room = new int[MOST_SWALLOWERS];
        final int[] hiccups = new int[MOST_SWALLOWERS];
        final int[] foesOf = new int[HOUSES];
        /** Both rules one behind the other, operands ahead of what joins them. */
        final int[] code = new int[TAPE_ROOM];
        int codes;
        int coolsFrom;
        int coolsTo;
        int risesFrom;
        int risesTo;
        int blades;
        int swallowers;
        int feuds;
        int patience = USUAL_PATIENCE;
        boolean patienceTold;

        void clear() {
            for (int h = 0; h < HOUSES; h++) {
                bladesOf[h] = 0;
                foesOf[h] = 0;
            }
            codes = 0;
            coolsFrom = 0;
            coolsTo = 0;
            risesFrom = 0;
            risesTo = 0;
            blades = 0;
            swallowers = 0;
            feuds = 0;
            patience = USUAL_PATIENCE;
            patienceTold = false;
        }

        /** A told rule has at least one code. */
        boolean coolsTold() {
            return coolsTo > coolsFrom;
        }

        boolean risesTold() {
            return risesTo > risesFrom;
        }

        void addCode(int one) {
            if (codes < code.length) {
                code[codes] = one;
                codes++;
            }
        }
    }

    /** The words, numbers and signs of the tape's first bytes, one at a time. */
    private static final class Tokens {
        /** A sign's kind is the sign itself, so these stay below all signs. */
        static final int END = 0;
        static final int WORD = 1;
        static final int NUMBER = 2;
        static final int NOTHING = 3;
        static final int MOST_DIGITS = 4;
        static final int TOO_LONG = 10000;

        private final int[] text;
        private int length;
        private int end;
        int start;
        int kind;
        int value;

        Tokens(int[] text) {
            this.text = text;
        }

        void open(int n) {
            length = Math.min(n, text.length);
            end = 0;
            next();
        }

        void next() {
            start = blanksEnd(end);
            if (start >= length) {
                kind = END;
                end = start;
                return;
            }
            int sign = text[start];
            if (isLetter(sign)) {
                kind = WORD;
                end = lettersEnd(start);
            } else if (isDigit(sign)) {
                kind = NUMBER;
                end = digitsEnd(start);
                value = valueOf(start, end);
            } else {
                kind = isSign(sign) ? sign : NOTHING;
                end = start + 1;
            }
        }

        boolean isWord(String word) {
            if (kind != WORD || end - start != word.length()) {
                return false;
            }
            for (int i = 0; i < word.length(); i++) {
                if (word.charAt(i) != text[start + i]) {
                    return false;
                }
            }
            return true;
        }

        private int blanksEnd(int from) {
            int at = from;
            while (at < length && (text[at] == 32 || text[at] == 10)) {
                at++;
            }
            return at;
        }

        private int lettersEnd(int from) {
            int at = from;
            while (at < length && isLetter(text[at])) {
                at++;
            }
            return at;
        }

        private int digitsEnd(int from) {
            int at = from;
            while (at < length && isDigit(text[at])) {
                at++;
            }
            return at;
        }

        /** A row of too many digits is above every number that may be told. */
        private int valueOf(int from, int to) {
            if (to - from > MOST_DIGITS) {
                return TOO_LONG;
            }
            int number = 0;
            for (int i = from; i < to; i++) {
                number = number * 10 + text[i] - '0';
            }
            return number;
        }

        private static boolean isLetter(int sign) {
            return sign >= 'a' && sign <= 'z';
        }

        private static boolean isDigit(int sign) {
            return sign >= '0' && sign <= '9';
        }

        private static boolean isSign(int sign) {
            return sign > 0 && sign < 128 && ";()+-*/<=".indexOf((char) sign) >= 0;
        }
    }

    /** Reads a text into a City up to its first fault. */
    private static final class Reader {
        static final int MISPLACED = 1;
        static final int TOO_MUCH = 2;
        static final int NO_VALUE = 3;
        static final int VAIN_FEUD = 4;
        static final int TOLD_TWICE = 5;
        static final int DEEPEST = 5;
        static final int MOST_NOTS = 6;

        private final Tokens tokens;
        private City city;
        private int fault;
        private boolean cooling;
        int place;

        Reader(Tokens tokens, City city) {
            this.tokens = tokens;
            this.city = city;
        }

        int tell(int n, City anew) {
            city = anew;
            city.clear();
            fault = 0;
            tokens.open(n);
            for (int i = 0; i <= n && tokens.kind != Tokens.END; i++) {
                if (!line()) {
                    return fault;
                }
            }
            return 0;
        }

        private boolean fail(int number) {
            fault = number;
            place = tokens.start;
            return false;
        }

        private boolean line() {
            boolean told;
            if (tokens.isWord("feud")) {
                told = feudLine();
            } else if (tokens.isWord("swallower")) {
                told = swallowerLine();
            } else if (tokens.isWord("blade")) {
                told = bladeLine();
            } else if (tokens.isWord("patience")) {
                told = patienceLine();
            } else if (tokens.isWord("cools")) {
                told = coolsLine();
            } else if (tokens.isWord("rises")) {
                told = risesLine();
            } else {
                told = fail(MISPLACED);
            }
            return told && passSign(';');
        }

        private boolean feudLine() {
            if (city.feuds >= MOST_FEUDS_TOLD) {
                return fail(TOO_MUCH);
            }
            tokens.next();
            if (!isNumber(0, HOUSES - 1)) {
                return false;
            }
            int first = tokens.value;
            tokens.next();
            if (!isNumber(0, HOUSES - 1)) {
                return false;
            }
            int second = tokens.value;
            if (first == second || ((city.foesOf[first] >> second) & 1) != 0) {
                return fail(VAIN_FEUD);
            }
            city.foesOf[first] |= 1 << second;
            city.foesOf[second] |= 1 << first;
            city.feuds++;
            tokens.next();
            return true;
        }

        private boolean swallowerLine() {
            int s = city.swallowers;
            if (s >= MOST_SWALLOWERS) {
                return fail(TOO_MUCH);
            }
            tokens.next();
            if (!isNumber(1, MOST_ROOM)) {
                return false;
            }
            city.room[s] = tokens.value;
            tokens.next();
            if (!isNumber(0, 30)) {
                return false;
            }
            city.hiccups[s] = tokens.value;
            city.swallowers++;
            tokens.next();
            return true;
        }

        private boolean bladeLine() {
            int b = city.blades;
            if (b >= MOST_BLADES) {
                return fail(TOO_MUCH);
            }
            tokens.next();
            if (!isNumber(0, HOUSES - 1)) {
                return false;
            }
            int house = tokens.value;
            tokens.next();
            if (!isNumber(1, 40)) {
                return false;
            }
            city.length[b] = tokens.value;
            tokens.next();
            if (!isNumber(0, MOST_ANGER)) {
                return false;
            }
            city.anger[b] = tokens.value;
            city.house[b] = house;
            city.bladesOf[house] |= 1 << b;
            city.blades++;
            tokens.next();
            return true;
        }

        private boolean patienceLine() {
            if (city.patienceTold) {
                return fail(TOLD_TWICE);
            }
            tokens.next();
            if (!isNumber(1, 99)) {
                return false;
            }
            city.patience = tokens.value;
            city.patienceTold = true;
            tokens.next();
            return true;
        }

        private boolean coolsLine() {
            if (city.coolsTold()) {
                return fail(TOLD_TWICE);
            }
            tokens.next();
            cooling = true;
            city.coolsFrom = city.codes;
            boolean told = either(0);
            city.coolsTo = city.codes;
            return told;
        }

        private boolean risesLine() {
            if (city.risesTold()) {
                return fail(TOLD_TWICE);
            }
            tokens.next();
            cooling = false;
            city.risesFrom = city.codes;
            boolean told = either(0);
            city.risesTo = city.codes;
            return told;
        }

        private boolean passSign(char sign) {
            if (tokens.kind != sign) {
                return fail(MISPLACED);
            }
            tokens.next();
            return true;
        }

        private boolean isNumber(int least, int most) {
            if (tokens.kind != Tokens.NUMBER) {
                return fail(MISPLACED);
            }
            if (tokens.value < least || tokens.value > most) {
                return fail(TOO_MUCH);
            }
            return true;
        }

        /** EXPR: the depth tells within how many others it stands. */
        private boolean either(int depth) {
            if (depth > DEEPEST) {
                return fail(partMayStart() ? TOO_MUCH : MISPLACED);
            }
            boolean fine = both(depth);
            for (int i = 0; i < TAPE_ROOM && fine && tokens.isWord("or"); i++) {
                tokens.next();
                fine = both(depth);
                city.addCode(Abacus.OR);
            }
            return fine;
        }

        private boolean partMayStart() {
            return tokens.kind == Tokens.NUMBER || tokens.kind == Tokens.WORD || tokens.kind == '(';
        }

        private boolean both(int depth) {
            boolean fine = perhapsNot(depth);
            for (int i = 0; i < TAPE_ROOM && fine && tokens.isWord("and"); i++) {
                tokens.next();
                fine = perhapsNot(depth);
                city.addCode(Abacus.AND);
            }
            return fine;
        }

        private boolean perhapsNot(int depth) {
            int nots = 0;
            for (int i = 0; i < MOST_NOTS && tokens.isWord("not"); i++) {
                tokens.next();
                nots++;
            }
            if (nots == MOST_NOTS && tokens.isWord("not")) {
                return fail(TOO_MUCH);
            }
            boolean fine = test(depth);
            for (int i = 0; i < nots; i++) {
                city.addCode(Abacus.NOT);
            }
            return fine;
        }

        private boolean test(int depth) {
            if (!sum(depth)) {
                return false;
            }
            int sign = tokens.kind;
            if (sign != '<' && sign != '=') {
                return true;
            }
            tokens.next();
            boolean fine = sum(depth);
            city.addCode(sign == '<' ? Abacus.LESS : Abacus.EQUAL);
            return fine;
        }

        private boolean sum(int depth) {
            boolean fine = product(depth);
            for (int i = 0; i < TAPE_ROOM && fine && (tokens.kind == '+' || tokens.kind == '-'); i++) {
                int join = tokens.kind == '+' ? Abacus.PLUS : Abacus.MINUS;
                tokens.next();
                fine = product(depth);
                city.addCode(join);
            }
            return fine;
        }

        private boolean product(int depth) {
            boolean fine = part(depth);
            for (int i = 0; i < TAPE_ROOM && fine && (tokens.kind == '*' || tokens.kind == '/'); i++) {
                int join = tokens.kind == '*' ? Abacus.TIMES : Abacus.OVER;
                tokens.next();
                fine = part(depth);
                city.addCode(join);
            }
            return fine;
        }

        private boolean part(int depth) {
            if (tokens.kind == '(') {
                tokens.next();
                return either(depth + 1) && passSign(')');
            }
            boolean word = tokens.kind == Tokens.WORD;
            if (!word && !isNumber(0, Tokens.TOO_LONG - 1)) {
                return false;
            }
            int code = word ? valueNamed() : tokens.value;
            if (word && code == 0) {
                return fail(NO_VALUE);
            }
            city.addCode(code);
            tokens.next();
            return true;
        }

        /** The code of the VALUE that the word names in this EXPR; 0 if there is none. */
        private int valueNamed() {
            if (tokens.isWord("anger")) {
                return Abacus.ANGER;
            }
            if (tokens.isWord("length")) {
                return Abacus.LENGTH;
            }
            if (tokens.isWord("day")) {
                return Abacus.DAY;
            }
            if (tokens.isWord("foes")) {
                return Abacus.FOES;
            }
            if (cooling && tokens.isWord("within")) {
                return Abacus.WITHIN;
            }
            if (cooling && tokens.isWord("above")) {
                return Abacus.ABOVE;
            }
            return 0;
        }
    }

    /** Works out a rule's codes; codes from 0 on are numbers. */
    private static final class Abacus {
        static final int ANGER = -1;
        static final int LENGTH = -2;
        static final int DAY = -3;
        static final int FOES = -4;
        static final int WITHIN = -5;
        static final int ABOVE = -6;
        static final int PLUS = -7;
        static final int MINUS = -8;
        static final int TIMES = -9;
        static final int OVER = -10;
        static final int LESS = -11;
        static final int EQUAL = -12;
        static final int NOT = -13;
        static final int AND = -14;
        static final int OR = -15;
        /** Each of the six levels of a rule leaves at most five operands waiting. */
        static final int DEEPEST = 40;

        private final int[] rods = new int[DEEPEST];
        private int anger;
        private int length;
        private int day;
        private int foes;
        private int within;
        private int above;

        void setForAll(int newAnger, int newLength, int newDay, int newFoes) {
            anger = newAnger;
            length = newLength;
            day = newDay;
            foes = newFoes;
        }

        void setForCools(int newWithin, int newAbove) {
            within = newWithin;
            above = newAbove;
        }

        int work(int[] code, int from, int to) {
            int high = 0;
            for (int i = Math.max(0, from); i < to && i < code.length; i++) {
                int one = code[i];
                if (one >= ABOVE) {
                    if (high < DEEPEST) {
                        rods[high] = one >= 0 ? one : valueOf(one);
                        high++;
                    }
                } else if (one == NOT) {
                    if (high >= 1) {
                        rods[high - 1] = rods[high - 1] == 0 ? 1 : 0;
                    }
                } else if (high >= 2) {
                    high--;
                    rods[high - 1] = join(one, rods[high - 1], rods[high]);
                }
            }
            return high == 1 ? rods[0] : 0;
        }

        private int valueOf(int one) {
            switch (one) {
                case ANGER: return anger;
                case LENGTH: return length;
                case DAY: return day;
                case FOES: return foes;
                case WITHIN: return within;
                default: return above;
            }
        }

        private static int join(int how, int a, int b) {
            switch (how) {
                case PLUS: return a + b;
                case MINUS: return a - b;
                case TIMES: return a * b;
                case OVER: return b == 0 ? 0 : a / b;
                case LESS: return a < b ? 1 : 0;
                case EQUAL: return a == b ? 1 : 0;
                case AND: return a != 0 && b != 0 ? 1 : 0;
                default: return a != 0 || b != 0 ? 1 : 0;
            }
        }
    }

    /** All that days and acts change, and how a day goes by. */
    private static final class Scene {
        /**
         * One row of cells, so that a whole scene is kept by one copy; ANGER stands first in it. FOES follows from FEUD:
         * all BLADES of the HOUSES that one is at feud with, so that days need not gather them again and again.
         */
        static final int PLACE = MOST_BLADES;
        static final int STAMP = PLACE + MOST_BLADES;
        static final int ROOM = STAMP + MOST_BLADES;
        static final int FEUD = ROOM + MOST_SWALLOWERS;
        static final int FOES = FEUD + HOUSES;
        static final int DAY = FOES + HOUSES;
        static final int FIGHTS = DAY + 1;
        static final int STAMPS = FIGHTS + 1;
        static final int SIZE = STAMPS + 1;

        City city;
        final int[] cells = new int[SIZE];
        final int[] fightsOf = new int[HOUSES];
        private final int[] atPlace = new int[AT_REST + 1];
        private final int[] change = new int[MOST_BLADES];
        private final Abacus abacus = new Abacus();

        Scene(City city) {
            this.city = city;
        }

        void begin(City anew) {
            city = anew;
            for (int i = 0; i < SIZE; i++) {
                cells[i] = 0;
            }
            System.arraycopy(city.anger, 0, cells, 0, city.blades);
            System.arraycopy(city.room, 0, cells, ROOM, city.swallowers);
            for (int h = 0; h < HOUSES; h++) {
                for (int other = 0; other < h; other++) {
                    if (((city.foesOf[h] >> other) & 1) != 0) {
                        turnFeud(h, other);
                    }
                }
            }
        }

        /** Makes a feud up, or there anew. */
        void turnFeud(int house, int other) {
            cells[FEUD + house] ^= 1 << other;
            cells[FEUD + other] ^= 1 << house;
            cells[FOES + house] ^= city.bladesOf[other];
            cells[FOES + other] ^= city.bladesOf[house];
        }

        void copy(Scene other) {
            city = other.city;
            System.arraycopy(other.cells, 0, cells, 0, SIZE);
            for (int h = 0; h < HOUSES; h++) {
                fightsOf[h] = 0;
            }
        }

        boolean isOut(int blade) {
            return cells[PLACE + blade] == OUT;
        }

        boolean isIn(int blade) {
            return cells[PLACE + blade] != OUT && cells[PLACE + blade] != AT_REST;
        }

        int state(int blade) {
            if (isOut(blade)) {
                return 0;
            }
            return isIn(blade) ? 1 : 2;
        }

        int swallowerOf(int blade) {
            return isIn(blade) ? cells[PLACE + blade] - 1 : NONE;
        }

        int bladesAt(int place) {
            int bits = 0;
            for (int b = 0; b < city.blades; b++) {
                if (cells[PLACE + b] == place) {
                    bits |= 1 << b;
                }
            }
            return bits;
        }

        int bladesOut() {
            return bladesAt(OUT);
        }

        int bladesAtRest() {
            return bladesAt(AT_REST);
        }

        int bladesIn() {
            return ((1 << city.blades) - 1) & ~bladesOut() & ~bladesAtRest();
        }

        int left(int swallower) {
            int left = cells[ROOM + swallower];
            for (int b = 0; b < city.blades; b++) {
                if (cells[PLACE + b] == swallower + 1) {
                    left -= city.length[b];
                }
            }
            return left;
        }

        boolean hasRoom(int swallower, int blade) {
            return left(swallower) >= city.length[blade];
        }

        int top(int swallower) {
            int top = NONE;
            for (int b = 0; b < city.blades; b++) {
                if (cells[PLACE + b] == swallower + 1 && (top == NONE || cells[STAMP + b] > cells[STAMP + top])) {
                    top = b;
                }
            }
            return top;
        }

        int bladesAbove(int blade) {
            int bits = 0;
            for (int b = 0; b < city.blades; b++) {
                if (cells[PLACE + b] == cells[PLACE + blade] && cells[STAMP + b] > cells[STAMP + blade]) {
                    bits |= 1 << b;
                }
            }
            return bits;
        }

        /** A later stamp lies behind an earlier one, so no order must be mended when one in the middle goes. */
        void putInto(int blade, int swallower) {
            cells[STAMPS]++;
            cells[STAMP + blade] = cells[STAMPS];
            cells[PLACE + blade] = swallower + 1;
        }

        void putIntoLeast(int blade) {
            for (int s = 0; s < city.swallowers; s++) {
                if (hasRoom(s, blade)) {
                    putInto(blade, s);
                    return;
                }
            }
        }

        void letTopOut(int swallower) {
            int top = top(swallower);
            if (top != NONE) {
                cells[PLACE + top] = OUT;
            }
        }

        int angerOfAll() {
            int anger = 0;
            for (int b = 0; b < city.blades; b++) {
                anger += cells[b];
            }
            return anger;
        }

        int foesNow(int blade) {
            lookRound();
            return foesWith(blade);
        }

        int changeNow(int blade) {
            lookRound();
            return changeOf(blade);
        }

        void passDays(int many) {
            for (int i = 0; i < many; i++) {
                passDay();
            }
        }

        void passDay() {
            changeAngers();
            layToRest();
            hiccupAll();
            fightAll();
            cells[DAY]++;
        }

        /** Who is where is the same for all changes of one day. */
        private void lookRound() {
            for (int place = OUT; place <= AT_REST; place++) {
                atPlace[place] = 0;
            }
            for (int b = 0; b < city.blades; b++) {
                int place = cells[PLACE + b];
                if (place >= OUT && place <= AT_REST) {
                    atPlace[place] |= 1 << b;
                }
            }
        }

        /** One AT REST is with nobody: neither in a SWALLOWER nor OUT. */
        private int foesWith(int blade) {
            int place = cells[PLACE + blade];
            if (place < OUT || place >= AT_REST) {
                return 0;
            }
            return Integer.bitCount(atPlace[place] & cells[FOES + city.house[blade]]);
        }

        private int changeOf(int blade) {
            int place = cells[PLACE + blade];
            if (place < OUT || place >= AT_REST) {
                return 0;
            }
            boolean rises = place == OUT;
            int foes = foesWith(blade);
            if (rises ? !city.risesTold() : !city.coolsTold()) {
                return rises ? foes : 2 + foes;
            }
            abacus.setForAll(cells[blade], city.length[blade], cells[DAY], foes);
            int change;
            if (rises) {
                change = abacus.work(city.code, city.risesFrom, city.risesTo);
            } else {
                abacus.setForCools(Integer.bitCount(atPlace[place]) - 1, Integer.bitCount(bladesAbove(blade)));
                change = abacus.work(city.code, city.coolsFrom, city.coolsTo);
            }
            return Math.max(0, Math.min(MOST_ANGER, change));
        }

        private void changeAngers() {
            lookRound();
            for (int b = 0; b < city.blades; b++) {
                change[b] = changeOf(b);
            }
            for (int b = 0; b < city.blades; b++) {
                if (isOut(b)) {
                    cells[b] = Math.min(MOST_ANGER, cells[b] + change[b]);
                } else {
                    cells[b] = Math.max(0, cells[b] - change[b]);
                }
            }
        }

        private void layToRest() {
            for (int b = 0; b < city.blades; b++) {
                if (isIn(b) && cells[b] == 0) {
                    cells[PLACE + b] = AT_REST;
                }
            }
        }

        private void hiccupAll() {
            for (int s = 0; s < city.swallowers; s++) {
                int every = city.hiccups[s];
                if (every > 0 && (cells[DAY] + 1) % every == 0) {
                    letTopOut(s);
                }
            }
        }

        private void fightAll() {
            int ready = 0;
            for (int b = 0; b < city.blades; b++) {
                if (isOut(b) && cells[b] >= city.patience) {
                    ready |= 1 << b;
                }
            }
            for (int b = 0; b < city.blades; b++) {
                int other = firstFoe(b, ready);
                if (other != NONE) {
                    fight(b, other);
                    ready &= ~(1 << b) & ~(1 << other);
                }
            }
        }

        private int firstFoe(int blade, int ready) {
            if (((ready >> blade) & 1) == 0) {
                return NONE;
            }
            int foes = ready & cells[FOES + city.house[blade]];
            for (int other = blade + 1; other < city.blades; other++) {
                if (((foes >> other) & 1) != 0) {
                    return other;
                }
            }
            return NONE;
        }

        private void fight(int blade, int other) {
            cells[blade] /= 2;
            cells[other] /= 2;
            cells[FIGHTS]++;
            fightsOf[city.house[blade]]++;
            fightsOf[city.house[other]]++;
        }
    }

    /** What is SEEN. */
    private static final class Sights {
        static final int FARTHEST = 30;

        final int[] blade = new int[MOST_SEEN];
        final int[] days = new int[MOST_SEEN];
        final int[] anger = new int[MOST_SEEN];
        int many;

        void note(int who, int when, int what) {
            if (many < MOST_SEEN) {
                blade[many] = who;
                days[many] = when;
                anger[many] = what;
                many++;
            }
        }

        int lastDay() {
            int last = NONE;
            for (int i = 0; i < many; i++) {
                last = Math.max(last, days[i]);
            }
            return last;
        }

        void copy(Sights other) {
            System.arraycopy(other.blade, 0, blade, 0, MOST_SEEN);
            System.arraycopy(other.days, 0, days, 0, MOST_SEEN);
            System.arraycopy(other.anger, 0, anger, 0, MOST_SEEN);
            many = other.many;
        }
    }

    /** All that an image keeps. */
    private static final class Chronicle {
        final Scene scene;
        final Sights sights = new Sights();
        final int[] refused = new int[SIGHTS + 1];
        /** A ring of the scenes ahead of the latest acts. */
        private final int[] rows = new int[MOST_ACTS * Scene.SIZE];
        private int nextRow;
        int actsKept;

        Chronicle(City city) {
            scene = new Scene(city);
        }

        void begin(City city) {
            scene.begin(city);
            sights.many = 0;
            nextRow = 0;
            actsKept = 0;
        }

        void keepAct() {
            System.arraycopy(scene.cells, 0, rows, nextRow * Scene.SIZE, Scene.SIZE);
            nextRow = (nextRow + 1) % MOST_ACTS;
            actsKept = Math.min(MOST_ACTS, actsKept + 1);
        }

        void takeActBack() {
            if (actsKept > 0) {
                nextRow = (nextRow + MOST_ACTS - 1) % MOST_ACTS;
                actsKept--;
                System.arraycopy(rows, nextRow * Scene.SIZE, scene.cells, 0, Scene.SIZE);
            }
        }

        void copy(Chronicle other) {
            scene.copy(other.scene);
            sights.copy(other.sights);
            System.arraycopy(other.refused, 0, refused, 0, refused.length);
            System.arraycopy(other.rows, 0, rows, 0, rows.length);
            nextRow = other.nextRow;
            actsKept = other.actsKept;
        }
    }

    /** What comes if only days go by, or blades are swallowed first. */
    private static final class Forecast {
        private static final int GAME_DAYS = 10;
        private static final int NEVER = MOST_AHEAD + 1;

        private final Scene now;
        private final Scene dream;
        private final int[] firstLoses = new int[4];
        private final int[] otherLoses = new int[4];
        private int seed;
        int calmingBlade;
        int delay;
        int restingCouples;
        int firstCouple;

        Forecast(Scene now, Scene dream) {
            this.now = now;
            this.dream = dream;
        }

        Scene after(int days) {
            dream.copy(now);
            for (int day = 0; day < days; day++) {
                dream.passDay();
            }
            return dream;
        }

        int fightsDreamt() {
            return dream.cells[Scene.FIGHTS] - now.cells[Scene.FIGHTS];
        }

        int firstFight() {
            dream.copy(now);
            int day = dreamFirstFight();
            return day == NEVER ? NONE : day;
        }

        private int dreamFirstFight() {
            for (int day = 1; day <= MOST_AHEAD; day++) {
                dream.passDay();
                if (fightsDreamt() > 0) {
                    return day;
                }
            }
            return NEVER;
        }

        int daysToRest(int blade) {
            dream.copy(now);
            for (int day = 0; day <= MOST_AHEAD; day++) {
                if (dream.cells[Scene.PLACE + blade] == AT_REST) {
                    return day;
                }
                dream.passDay();
            }
            return NONE;
        }

        int worstHouse(int days) {
            after(days);
            int worst = NONE;
            int most = 0;
            for (int h = 0; h < HOUSES; h++) {
                if (dream.fightsOf[h] > most) {
                    most = dream.fightsOf[h];
                    worst = h;
                }
            }
            return worst;
        }

        void seekCalmingBlade() {
            dream.copy(now);
            int latest = dreamFirstFight();
            calmingBlade = NONE;
            delay = NONE;
            for (int b = 0; b < now.city.blades; b++) {
                if (now.isOut(b)) {
                    dream.copy(now);
                    dream.putIntoLeast(b);
                    int day = dreamFirstFight();
                    if (day > latest) {
                        latest = day;
                        calmingBlade = b;
                        delay = day == NEVER ? NONE : day;
                    }
                }
            }
        }

        /** A couple of choices is a number of two bits, the first HOUSE's being the higher one. */
        void play(int house, int other) {
            for (int couple = 0; couple < 4; couple++) {
                dream.copy(now);
                int giving = ((couple >> 1) & 1) != 0 ? now.city.bladesOf[house] : 0;
                giving |= (couple & 1) != 0 ? now.city.bladesOf[other] : 0;
                dreamSwallowing(giving);
                dream.passDays(GAME_DAYS);
                firstLoses[couple] = lossOf(house);
                otherLoses[couple] = lossOf(other);
            }
            restingCouples = 0;
            firstCouple = NONE;
            for (int couple = 0; couple < 4; couple++) {
                if (firstLoses[couple] <= firstLoses[couple ^ 2] && otherLoses[couple] <= otherLoses[couple ^ 1]) {
                    restingCouples++;
                    if (firstCouple == NONE) {
                        firstCouple = (couple >> 1) * 10 + (couple & 1);
                    }
                }
            }
        }

        private void dreamSwallowing(int giving) {
            for (int b = 0; b < dream.city.blades; b++) {
                if (((giving >> b) & 1) != 0 && dream.isOut(b)) {
                    dream.putIntoLeast(b);
                }
            }
        }

        private int lossOf(int house) {
            return 5 * dream.fightsOf[house] + Integer.bitCount(dream.bladesIn() & dream.city.bladesOf[house]);
        }

        Scene summerEnd(int firstSeed, int days) {
            seed = firstSeed;
            dream.copy(now);
            for (int day = 0; day < days; day++) {
                int what = drawOf(7);
                if (what == 0) {
                    angerOne();
                } else if (what == 1) {
                    laugh();
                }
                dream.passDay();
            }
            return dream;
        }

        private int drawOf(int many) {
            if (many <= 0) {
                return NONE;
            }
            seed = seed * 1103515245 + 12345;
            return ((seed >>> 16) & 32767) % many;
        }

        private void angerOne() {
            int blade = drawOf(dream.city.blades);
            if (blade != NONE && dream.isOut(blade)) {
                dream.cells[blade] = Math.min(MOST_ANGER, dream.cells[blade] + 20);
            }
        }

        private void laugh() {
            int swallower = drawOf(dream.city.swallowers);
            if (swallower != NONE) {
                dream.letTopOut(swallower);
            }
        }
    }

    /** Which BLADES would go into which SWALLOWERS. */
    private static final class Packing {
        private static final int SETS = 1 << MOST_BLADES;
        /** Above every filling: SWALLOWERS times FILLING and what is used of the last one. */
        private static final int FILLING = 128;
        private static final int NO_WAY = MOST_SWALLOWERS * FILLING;

        private final Scene scene;
        /** For a set of BLADES the least filling of the rooms, these being filled one behind the other. */
        private final int[] filling = new int[SETS];
        private final int[] most = new int[SETS];
        private final int[] rooms = new int[MOST_SWALLOWERS];
        private int manyRooms;

        Packing(Scene scene) {
            this.scene = scene;
        }

        int mostAnger() {
            int out = scene.bladesOut();
            weighFrom(0, out);
            return most[out];
        }

        int bestSwallower(int blade) {
            int free = scene.bladesOut();
            weighFrom(0, free);
            int wanted = most[free];
            for (int s = 0; s < scene.city.swallowers; s++) {
                weighFrom(s + 1, free);
                int set = leastSet(s, free, wanted);
                if (((set >> blade) & 1) != 0) {
                    return s;
                }
                free &= ~set;
                wanted -= angerOf(set);
            }
            return NONE;
        }

        int fewestSwallowers() {
            int out = scene.bladesOut();
            int length = lengthOf(out);
            int all = scene.city.swallowers;
            for (int many = 0; many <= all; many++) {
                for (int set = 0; set < 1 << all; set++) {
                    if (Integer.bitCount(set) == many && roomIn(set) >= length && goesInto(out)) {
                        return set;
                    }
                }
            }
            return NONE;
        }

        private boolean goesInto(int out) {
            fill(out);
            return filling[out] < NO_WAY;
        }

        /** The least set into SWALLOWER s by which the others still take in all the rest of the wanted ANGER. */
        private int leastSet(int s, int free, int wanted) {
            int left = scene.left(s);
            for (int set = 0; set <= free && set < SETS; set++) {
                if ((set & ~free) == 0 && angerOf(set) + most[free & ~set] == wanted && lengthOf(set) <= left) {
                    return set;
                }
            }
            return 0;
        }

        /** For each set of BLADES the most ANGER of some of them that go into the SWALLOWERS from s on. */
        private void weighFrom(int s, int out) {
            roomIn(((1 << scene.city.swallowers) - 1) & (-1 << s));
            fill(out);
            for (int set = 0; set <= out && set < SETS; set++) {
                if ((set & ~out) == 0) {
                    most[set] = filling[set] < NO_WAY ? angerOf(set) : mostWithoutOne(set);
                }
            }
        }

        private int mostWithoutOne(int set) {
            int best = 0;
            for (int b = 0; b < scene.city.blades; b++) {
                if (((set >> b) & 1) != 0) {
                    best = Math.max(best, most[set & ~(1 << b)]);
                }
            }
            return best;
        }

        /** Makes the rooms those of a set of SWALLOWERS: all that is LEFT there. */
        private int roomIn(int swallowers) {
            int sum = 0;
            manyRooms = 0;
            for (int s = 0; s < scene.city.swallowers; s++) {
                if (((swallowers >> s) & 1) != 0 && manyRooms < MOST_SWALLOWERS) {
                    rooms[manyRooms] = scene.left(s);
                    sum += rooms[manyRooms];
                    manyRooms++;
                }
            }
            return sum;
        }

        private void fill(int out) {
            filling[0] = 0;
            for (int set = 1; set <= out && set < SETS; set++) {
                if ((set & ~out) == 0) {
                    filling[set] = leastFilling(set);
                }
            }
        }

        private int leastFilling(int set) {
            int least = NO_WAY;
            for (int b = 0; b < scene.city.blades; b++) {
                if (((set >> b) & 1) != 0) {
                    least = Math.min(least, fillingWith(filling[set & ~(1 << b)], scene.city.length[b]));
                }
            }
            return least;
        }

        private int fillingWith(int before, int length) {
            int used = before % FILLING;
            for (int r = before / FILLING; r < manyRooms; r++) {
                if (used + length <= rooms[r]) {
                    return r * FILLING + used + length;
                }
                used = 0;
            }
            return NO_WAY;
        }

        private int angerOf(int set) {
            int anger = 0;
            for (int b = 0; b < scene.city.blades; b++) {
                if (((set >> b) & 1) != 0) {
                    anger += scene.cells[b];
                }
            }
            return anger;
        }

        private int lengthOf(int set) {
            int length = 0;
            for (int b = 0; b < scene.city.blades; b++) {
                if (((set >> b) & 1) != 0) {
                    length += scene.city.length[b];
                }
            }
            return length;
        }
    }

    /** Feuds among HOUSES, in the cells of the scene of now. */
    private static final class Quarrels {
        private static final int SETS = 1 << HOUSES;

        private final int[] cells;
        private final int[] couplesIn = new int[SETS];

        Quarrels(int[] cells) {
            this.cells = cells;
        }

        boolean between(int house, int other) {
            return ((cells[Scene.FEUD + house] >> other) & 1) != 0;
        }

        int howMany() {
            int ends = 0;
            for (int h = 0; h < HOUSES; h++) {
                ends += Integer.bitCount(cells[Scene.FEUD + h]);
            }
            return ends / 2;
        }

        private int foesOfSet(int houses) {
            int foes = 0;
            for (int h = 0; h < HOUSES; h++) {
                if (((houses >> h) & 1) != 0) {
                    foes |= cells[Scene.FEUD + h];
                }
            }
            return foes;
        }

        /** Those to which an even number of feuds leads from a HOUSE. */
        private int campOf(int house) {
            int camp = 1 << house;
            for (int i = 0; i < HOUSES; i++) {
                camp |= foesOfSet(foesOfSet(camp));
            }
            return camp;
        }

        int firstCamp() {
            int camps = 0;
            int met = 0;
            for (int h = 0; h < HOUSES; h++) {
                if (cells[Scene.FEUD + h] != 0 && ((met >> h) & 1) == 0) {
                    int camp = campOf(h);
                    int against = foesOfSet(camp);
                    if ((camp & against) != 0) {
                        return NONE;
                    }
                    camps |= camp;
                    met |= camp | against;
                }
            }
            return camps;
        }

        int parties() {
            int many = 0;
            int met = 0;
            for (int h = 0; h < HOUSES; h++) {
                if (cells[Scene.FEUD + h] != 0 && ((met >> h) & 1) == 0) {
                    int camp = campOf(h);
                    met |= camp | foesOfSet(camp);
                    many++;
                }
            }
            return many;
        }

        int mostCouples() {
            for (int set = 1; set < SETS; set++) {
                couplesIn[set] = mostCouplesIn(set);
            }
            return couplesIn[SETS - 1];
        }

        /** The greatest HOUSE of a set stays alone, or makes up with one of the others. */
        private int mostCouplesIn(int set) {
            int house = HOUSES - 1;
            while (house > 0 && ((set >> house) & 1) == 0) {
                house--;
            }
            int others = set & ~(1 << house);
            int most = couplesIn[others];
            for (int h = 0; h < house; h++) {
                if (((others >> h) & 1) != 0 && between(house, h)) {
                    most = Math.max(most, 1 + couplesIn[others & ~(1 << h)]);
                }
            }
            return most;
        }
    }

    /** Whose ANGER was told wrong by what was SEEN. */
    private static final class Doubt {
        private static final int LOOK_DAYS = 3;
        private static final int WORD_BITS = 64;

        private final Scene now;
        private final Sights sights;
        private final Scene dream;
        /** Of each BLADE two words of bits, for the ANGERS below and from WORD_BITS on. */
        private final long[] angers = new long[2 * MOST_BLADES];
        int nextBlade;
        int unlike;

        Doubt(Scene now, Sights sights, Scene dream) {
            this.now = now;
            this.sights = sights;
            this.dream = dream;
        }

        boolean fitsAsItIs() {
            return fits(NONE, 0);
        }

        int howMany() {
            int many = 0;
            for (int b = 0; b < now.city.blades; b++) {
                for (int anger = 0; anger <= MOST_ANGER; anger++) {
                    if (anger != now.cells[b] && fits(b, anger)) {
                        many++;
                    }
                }
            }
            return many;
        }

        int first() {
            for (int b = 0; b < now.city.blades; b++) {
                for (int anger = 0; anger <= MOST_ANGER; anger++) {
                    if (anger != now.cells[b] && fits(b, anger)) {
                        return 100 * b + anger;
                    }
                }
            }
            return NONE;
        }

        void seekNext() {
            for (int i = 0; i < angers.length; i++) {
                angers[i] = 0;
            }
            for (int b = 0; b < now.city.blades; b++) {
                for (int anger = 0; anger <= MOST_ANGER; anger++) {
                    if (anger != now.cells[b] && fits(b, anger)) {
                        markAngers(b, anger);
                    }
                }
            }
            nextBlade = NONE;
            unlike = 0;
            for (int b = 0; b < now.city.blades; b++) {
                int many = Long.bitCount(angers[2 * b]) + Long.bitCount(angers[2 * b + 1]);
                if (many > unlike) {
                    unlike = many;
                    nextBlade = b;
                }
            }
        }

        /** Whether all SEEN would be so if that BLADE had that ANGER now; BLADE NONE: if all is as told. */
        private boolean fits(int blade, int anger) {
            dream.copy(now);
            if (blade != NONE) {
                dream.cells[blade] = anger;
            }
            int last = sights.lastDay();
            for (int day = 0; day <= last; day++) {
                if (day > 0) {
                    dream.passDay();
                }
                if (!dreamFitsOn(day)) {
                    return false;
                }
            }
            return true;
        }

        private boolean dreamFitsOn(int day) {
            for (int i = 0; i < sights.many; i++) {
                if (sights.days[i] == day && dream.cells[sights.blade[i]] != sights.anger[i]) {
                    return false;
                }
            }
            return true;
        }

        private void markAngers(int blade, int anger) {
            dream.copy(now);
            dream.cells[blade] = anger;
            for (int day = 0; day < LOOK_DAYS; day++) {
                dream.passDay();
            }
            for (int b = 0; b < now.city.blades; b++) {
                int seen = dream.cells[b];
                angers[2 * b + seen / WORD_BITS] |= 1L << (seen % WORD_BITS);
            }
        }
    }
}
