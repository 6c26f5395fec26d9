import java.util.ArrayList;
import java.util.List;
import java.util.NoSuchElementException;
import java.util.TreeSet;

/**
 * The document once more, as naively as can be: stacks as lists, whole copies for each act, all ways tried.
 * It shares no thought with the program but the document, so that a slip in one shows against the other.
 */
final class Oracle {
    static final int NONE = -1;

    static final class Fault extends RuntimeException {
        final int number;
        final int place;

        Fault(int number, int place) {
            this.number = number;
            this.place = place;
        }
    }

    /** A node of a rule: a number, a value's name, or an operator over parts. */
    static final class Node {
        final String what;
        final int number;
        final Node left;
        final Node right;

        Node(String what, int number, Node left, Node right) {
            this.what = what;
            this.number = number;
            this.left = left;
            this.right = right;
        }
    }

    static final class Token {
        final char kind; // 'w' word, 'n' number, 's' sign, '?' nothing, '$' the end
        final String text;
        final int place;

        Token(char kind, String text, int place) {
            this.kind = kind;
            this.text = text;
            this.place = place;
        }

        boolean is(String other) {
            return kind != '?' && kind != '$' && text.equals(other);
        }
    }

    static final class Blade {
        int house;
        int length;
        int anger;
        int state; // 0 out, 1 in, 2 at rest
    }

    static final class Throat {
        int room;
        int hiccups;
        List<Integer> stack = new ArrayList<>();
    }

    /** All that is, but for what acts and sights keep. */
    static final class World {
        List<Blade> blades = new ArrayList<>();
        List<Throat> throats = new ArrayList<>();
        boolean[][] feud = new boolean[6][6];
        int patience = 50;
        Node cools;
        Node rises;
        int day;
        int fights;
        int[] houseFights = new int[6];

        World copy() {
            World w = new World();
            for (Blade b : blades) {
                Blade c = new Blade();
                c.house = b.house;
                c.length = b.length;
                c.anger = b.anger;
                c.state = b.state;
                w.blades.add(c);
            }
            for (Throat t : throats) {
                Throat c = new Throat();
                c.room = t.room;
                c.hiccups = t.hiccups;
                c.stack.addAll(t.stack);
                w.throats.add(c);
            }
            for (int i = 0; i < 6; i++) {
                w.feud[i] = feud[i].clone();
            }
            w.patience = patience;
            w.cools = cools;
            w.rises = rises;
            w.day = day;
            w.fights = fights;
            return w;
        }

        int swallowerOf(int b) {
            for (int s = 0; s < throats.size(); s++) {
                if (throats.get(s).stack.contains(b)) {
                    return s;
                }
            }
            return NONE;
        }

        int left(int s) {
            int left = throats.get(s).room;
            for (int b : throats.get(s).stack) {
                left -= blades.get(b).length;
            }
            return left;
        }

        int foes(int b) {
            int many = 0;
            Blade one = blades.get(b);
            for (int o = 0; o < blades.size(); o++) {
                Blade other = blades.get(o);
                if (!feud[one.house][other.house]) {
                    continue;
                }
                if (one.state == 0 && other.state == 0) {
                    many++;
                }
                if (one.state == 1 && other.state == 1 && swallowerOf(b) == swallowerOf(o)) {
                    many++;
                }
            }
            return many;
        }

        int above(int b) {
            List<Integer> stack = throats.get(swallowerOf(b)).stack;
            return stack.size() - 1 - stack.indexOf(b);
        }

        int eval(Node n, int b) {
            switch (n.what) {
                case "number": return n.number;
                case "anger": return blades.get(b).anger;
                case "length": return blades.get(b).length;
                case "day": return day;
                case "foes": return foes(b);
                case "within": return throats.get(swallowerOf(b)).stack.size() - 1;
                case "above": return above(b);
                case "not": return eval(n.left, b) != 0 ? 0 : 1;
                default:
            }
            int x = eval(n.left, b);
            int y = eval(n.right, b);
            switch (n.what) {
                case "or": return x != 0 || y != 0 ? 1 : 0;
                case "and": return x != 0 && y != 0 ? 1 : 0;
                case "<": return x < y ? 1 : 0;
                case "=": return x == y ? 1 : 0;
                case "+": return x + y;
                case "-": return x - y;
                case "*": return x * y;
                case "/": return y == 0 ? 0 : x / y;
                default: throw new IllegalStateException(n.what);
            }
        }

        int change(int b) {
            int state = blades.get(b).state;
            if (state == 2) {
                return 0;
            }
            int change;
            if (state == 1) {
                change = cools == null ? 2 + foes(b) : eval(cools, b);
            } else {
                change = rises == null ? foes(b) : eval(rises, b);
            }
            return change < 0 ? 0 : change > 99 ? 99 : change;
        }

        void out(int b) {
            blades.get(b).state = 0;
            for (Throat t : throats) {
                t.stack.remove((Integer) b);
            }
        }

        void topOut(int s) {
            List<Integer> stack = throats.get(s).stack;
            if (!stack.isEmpty()) {
                out(stack.get(stack.size() - 1));
            }
        }

        void in(int b, int s) {
            blades.get(b).state = 1;
            throats.get(s).stack.add(b);
        }

        int leastWithRoom(int b) {
            for (int s = 0; s < throats.size(); s++) {
                if (left(s) >= blades.get(b).length) {
                    return s;
                }
            }
            return NONE;
        }

        void pass() {
            int[] change = new int[blades.size()];
            for (int b = 0; b < change.length; b++) {
                change[b] = change(b);
            }
            for (int b = 0; b < change.length; b++) {
                Blade one = blades.get(b);
                if (one.state == 0) {
                    one.anger = Math.min(99, one.anger + change[b]);
                } else if (one.state == 1) {
                    one.anger = Math.max(0, one.anger - change[b]);
                }
            }
            for (int b = 0; b < change.length; b++) {
                if (blades.get(b).state == 1 && blades.get(b).anger == 0) {
                    out(b);
                    blades.get(b).state = 2;
                }
            }
            for (int s = 0; s < throats.size(); s++) {
                int h = throats.get(s).hiccups;
                if (h != 0 && (day + 1) % h == 0) {
                    topOut(s);
                }
            }
            boolean[] fought = new boolean[blades.size()];
            while (fightOnce(fought)) {
                fights++;
            }
            day++;
        }

        boolean fightOnce(boolean[] fought) {
            for (int i = 0; i < blades.size(); i++) {
                for (int j = 0; j < blades.size(); j++) {
                    Blade a = blades.get(i);
                    Blade b = blades.get(j);
                    if (!fought[i] && !fought[j] && a.state == 0 && b.state == 0 && a.anger >= patience
                            && b.anger >= patience && feud[a.house][b.house]) {
                        a.anger /= 2;
                        b.anger /= 2;
                        fought[i] = true;
                        fought[j] = true;
                        houseFights[a.house]++;
                        houseFights[b.house]++;
                        return true;
                    }
                }
            }
            return false;
        }

        World after(int days) {
            World w = copy();
            for (int i = 0; i < days; i++) {
                w.pass();
            }
            return w;
        }

        int bits(int state) {
            int bits = 0;
            for (int b = 0; b < blades.size(); b++) {
                if (blades.get(b).state == state) {
                    bits |= 1 << b;
                }
            }
            return bits;
        }

        int peace() {
            World w = copy();
            for (int d = 1; d <= 60; d++) {
                w.pass();
                if (w.fights > fights) {
                    return d;
                }
            }
            return NONE;
        }
    }

    static final class Saved {
        World world;
        List<World> acts;
        List<int[]> seen;
        int[] status;
    }

    World world = new World();
    List<World> acts = new ArrayList<>();
    List<int[]> seen = new ArrayList<>();
    int[] status = new int[3];
    Saved saved;
    StringBuilder tape = new StringBuilder();
    int faultPlace = NONE;

    // ---- the text

    private List<Token> tokens;
    private int at;

    static List<Token> tokensOf(String text) {
        List<Token> list = new ArrayList<>();
        int i = 0;
        while (i < text.length()) {
            char c = text.charAt(i);
            int start = i;
            if (c == 32 || c == 10) {
                i++;
                continue;
            }
            char kind;
            if (c >= 'a' && c <= 'z') {
                kind = 'w';
                while (i < text.length() && text.charAt(i) >= 'a' && text.charAt(i) <= 'z') {
                    i++;
                }
            } else if (c >= '0' && c <= '9') {
                kind = 'n';
                while (i < text.length() && text.charAt(i) >= '0' && text.charAt(i) <= '9') {
                    i++;
                }
            } else {
                kind = ";()+-*/<=".indexOf(c) >= 0 ? 's' : '?';
                i++;
            }
            list.add(new Token(kind, text.substring(start, i), start));
        }
        list.add(new Token('$', "", text.length()));
        return list;
    }

    private Token token() {
        return tokens.get(at);
    }

    private Fault fault(int number) {
        return new Fault(number, token().place);
    }

    private int number(int low, int high) {
        Token t = token();
        if (t.kind != 'n') {
            throw fault(1);
        }
        if (t.text.length() > 4 || Integer.parseInt(t.text) < low || Integer.parseInt(t.text) > high) {
            throw fault(2);
        }
        return Integer.parseInt(t.text);
    }

    private World read(String text) {
        tokens = tokensOf(text);
        at = 0;
        World w = new World();
        int feuds = 0;
        boolean patience = false;
        while (token().kind != '$') {
            Token t = token();
            if (t.is("feud")) {
                if (feuds++ == 9) {
                    throw fault(2);
                }
                at++;
                int a = number(0, 5);
                at++;
                int b = number(0, 5);
                if (a == b || w.feud[a][b]) {
                    throw fault(4);
                }
                w.feud[a][b] = true;
                w.feud[b][a] = true;
                at++;
            } else if (t.is("swallower")) {
                if (w.throats.size() == 5) {
                    throw fault(2);
                }
                Throat s = new Throat();
                at++;
                s.room = number(1, 99);
                at++;
                s.hiccups = number(0, 30);
                at++;
                w.throats.add(s);
            } else if (t.is("blade")) {
                if (w.blades.size() == 10) {
                    throw fault(2);
                }
                Blade b = new Blade();
                at++;
                b.house = number(0, 5);
                at++;
                b.length = number(1, 40);
                at++;
                b.anger = number(0, 99);
                at++;
                w.blades.add(b);
            } else if (t.is("patience")) {
                if (patience) {
                    throw fault(5);
                }
                patience = true;
                at++;
                w.patience = number(1, 99);
                at++;
            } else if (t.is("cools")) {
                if (w.cools != null) {
                    throw fault(5);
                }
                at++;
                w.cools = climb(0, 0, true);
            } else if (t.is("rises")) {
                if (w.rises != null) {
                    throw fault(5);
                }
                at++;
                w.rises = climb(0, 0, false);
            } else {
                throw fault(1);
            }
            if (!token().is(";")) {
                throw fault(1);
            }
            at++;
        }
        return w;
    }

    private static final String[][] LEVELS = {{"or"}, {"and"}, {}, {"<", "="}, {"+", "-"}, {"*", "/"}};

    /** Levels of binding: 0 or, 1 and, 2 not, 3 tests (one at most), 4 sums, 5 products, 6 parts. */
    private Node climb(int level, int within, boolean cooling) {
        if (level == 0 && within >= 6) {
            Token t = token();
            throw fault(t.kind == 'n' || t.kind == 'w' || t.is("(") ? 2 : 1);
        }
        if (level == 2) {
            return climbNot(0, within, cooling);
        }
        if (level == 6) {
            return climbPart(within, cooling);
        }
        Node node = climb(level + 1, within, cooling);
        boolean again = true;
        while (again) {
            again = false;
            for (String sign : LEVELS[level]) {
                if (token().is(sign)) {
                    at++;
                    node = new Node(sign, 0, node, climb(level + 1, within, cooling));
                    again = level != 3;
                    break;
                }
            }
        }
        return node;
    }

    private Node climbNot(int nots, int within, boolean cooling) {
        if (!token().is("not")) {
            return climb(3, within, cooling);
        }
        if (nots == 6) {
            throw fault(2);
        }
        at++;
        return new Node("not", 0, climbNot(nots + 1, within, cooling), null);
    }

    private Node climbPart(int within, boolean cooling) {
        Token t = token();
        if (t.kind == 'n') {
            int n = number(0, 9999);
            at++;
            return new Node("number", n, null, null);
        }
        if (t.kind == 'w') {
            List<String> names = cooling ? List.of("anger", "length", "day", "foes", "within", "above")
                    : List.of("anger", "length", "day", "foes");
            if (!names.contains(t.text)) {
                throw fault(3);
            }
            at++;
            return new Node(t.text, 0, null, null);
        }
        if (!t.is("(")) {
            throw fault(1);
        }
        at++;
        Node inner = climb(0, within + 1, cooling);
        if (!token().is(")")) {
            throw fault(1);
        }
        at++;
        return inner;
    }

    // ---- the face

    int feed(int a, int b, int c, int d, int e) {
        if (tape.length() + 20 > 700) {
            return NONE;
        }
        for (int n : new int[] {a, b, c, d, e}) {
            tape.append((char) (n >> 24 & 255)).append((char) (n >> 16 & 255));
            tape.append((char) (n >> 8 & 255)).append((char) (n & 255));
        }
        return tape.length();
    }

    int city(int n) {
        if (n < 0 || n > tape.length()) {
            throw new IllegalArgumentException();
        }
        String text = tape.substring(0, n);
        tape.setLength(0);
        try {
            world = read(text);
        } catch (Fault f) {
            faultPlace = f.place;
            status[0]++;
            return f.number;
        }
        faultPlace = NONE;
        acts.clear();
        seen.clear();
        saved = null;
        return 0;
    }

    int fault() {
        return faultPlace;
    }

    int count(int what) {
        int feuds = 0;
        for (int i = 0; i < 6; i++) {
            for (int j = 0; j < i; j++) {
                feuds += world.feud[i][j] ? 1 : 0;
            }
        }
        int[] all = {feuds, world.throats.size(), world.blades.size(), world.patience, world.day, world.bits(0),
            world.bits(1), world.bits(2), world.fights, acts.size(), seen.size(), tape.length(), status[0], status[1],
            status[2]};
        return all[range(what, 15)];
    }

    private static int range(int x, int size) {
        if (x < 0 || x >= size) {
            throw new NoSuchElementException();
        }
        return x;
    }

    private static void ahead(int days) {
        if (days < 0 || days > 60) {
            throw new IllegalArgumentException();
        }
    }

    private Blade b(int blade) {
        return world.blades.get(range(blade, world.blades.size()));
    }

    private Throat t(int swallower) {
        return world.throats.get(range(swallower, world.throats.size()));
    }

    int blade(int blade, int what) {
        Blade b = b(blade);
        int[] all = {b.house, b.length, b.anger, b.state, world.swallowerOf(blade), world.foes(blade),
            world.change(blade)};
        return all[range(what, 7)];
    }

    int throat(int swallower, int what) {
        Throat t = t(swallower);
        int top = t.stack.isEmpty() ? NONE : t.stack.get(t.stack.size() - 1);
        int[] all = {t.room, t.hiccups, world.left(swallower), t.stack.size(), top};
        return all[range(what, 5)];
    }

    boolean feud(int house, int other) {
        return world.feud[range(house, 6)][range(other, 6)];
    }

    private void act() {
        acts.add(world.copy());
        if (acts.size() > 40) {
            acts.remove(0);
        }
    }

    private int refused(int which) {
        status[which]++;
        return NONE;
    }

    int days(int many) {
        if (many < 1 || many > 20 || world.day + many > 999) {
            return refused(1);
        }
        act();
        for (int i = 0; i < many; i++) {
            world.pass();
        }
        return world.day;
    }

    int swallow(int blade, int swallower) {
        Blade b = b(blade);
        t(swallower);
        if (b.state != 0 || world.left(swallower) < b.length) {
            return refused(1);
        }
        act();
        world.in(blade, swallower);
        return world.left(swallower);
    }

    int draw(int swallower) {
        Throat t = t(swallower);
        if (t.stack.isEmpty()) {
            return refused(1);
        }
        act();
        int top = t.stack.get(t.stack.size() - 1);
        world.topOut(swallower);
        return top;
    }

    int broth(int swallower, int more) {
        Throat t = t(swallower);
        if (more < 1 || more > 20) {
            return refused(1);
        }
        act();
        t.room = Math.min(99, t.room + more);
        return t.room;
    }

    boolean make(int house, int other, boolean feud) {
        range(house, 6);
        range(other, 6);
        if (house == other || world.feud[house][other] == feud) {
            refused(1);
            return false;
        }
        act();
        world.feud[house][other] = feud;
        world.feud[other][house] = feud;
        return true;
    }

    int undo() {
        if (acts.isEmpty()) {
            return NONE;
        }
        world = acts.remove(acts.size() - 1).copy();
        return acts.size();
    }

    int then(int blade, int days, int what) {
        b(blade);
        range(what, 2);
        ahead(days);
        Blade later = world.after(days).blades.get(blade);
        return what == 0 ? later.anger : later.state;
    }

    int peace() {
        return world.peace();
    }

    int fights(int days) {
        ahead(days);
        return world.after(days).fights - world.fights;
    }

    int rests(int blade) {
        b(blade);
        for (int d = 0; d <= 60; d++) {
            if (world.after(d).blades.get(blade).state == 2) {
                return d;
            }
        }
        return NONE;
    }

    int worst(int days) {
        ahead(days);
        int[] many = world.after(days).houseFights;
        int worst = NONE;
        for (int h = 5; h >= 0; h--) {
            if (many[h] > 0 && (worst == NONE || many[h] >= many[worst])) {
                worst = h;
            }
        }
        return worst;
    }

    /** All ways, each as a row of sets by SWALLOWER; the best so far in bestSets. */
    private int bestAnger;
    private int[] bestSets;

    private void tryAll(int b, int[] sets, int[] lefts, int anger) {
        if (b == world.blades.size()) {
            if (anger > bestAnger || anger == bestAnger && java.util.Arrays.compare(sets, bestSets) < 0) {
                bestAnger = anger;
                bestSets = sets.clone();
            }
            return;
        }
        tryAll(b + 1, sets, lefts, anger);
        Blade one = world.blades.get(b);
        for (int s = 0; one.state == 0 && s < lefts.length; s++) {
            if (lefts[s] >= one.length) {
                lefts[s] -= one.length;
                sets[s] |= 1 << b;
                tryAll(b + 1, sets, lefts, anger + one.anger);
                sets[s] &= ~(1 << b);
                lefts[s] += one.length;
            }
        }
    }

    private int[] lefts() {
        int[] lefts = new int[world.throats.size()];
        for (int s = 0; s < lefts.length; s++) {
            lefts[s] = world.left(s);
        }
        return lefts;
    }

    /** So that the caller can leave out what would take too long here. */
    double waysToTakeIn() {
        return Math.pow(world.throats.size() + 1, Integer.bitCount(world.bits(0)));
    }

    int takeIn(int blade) {
        if (blade != NONE) {
            b(blade);
        }
        bestAnger = -1;
        tryAll(0, new int[world.throats.size()], lefts(), 0);
        if (blade == NONE) {
            return bestAnger;
        }
        for (int s = 0; s < bestSets.length; s++) {
            if ((bestSets[s] >> blade & 1) != 0) {
                return s;
            }
        }
        return NONE;
    }

    private boolean allGo(int b, int set, int[] lefts) {
        if (b == world.blades.size()) {
            return true;
        }
        Blade one = world.blades.get(b);
        if (one.state != 0) {
            return allGo(b + 1, set, lefts);
        }
        for (int s = 0; s < lefts.length; s++) {
            if ((set >> s & 1) != 0 && lefts[s] >= one.length) {
                lefts[s] -= one.length;
                boolean go = allGo(b + 1, set, lefts);
                lefts[s] += one.length;
                if (go) {
                    return true;
                }
            }
        }
        return false;
    }

    int throats() {
        int best = NONE;
        for (int set = 0; set < 1 << world.throats.size(); set++) {
            if ((best == NONE || Integer.bitCount(set) < Integer.bitCount(best)) && allGo(0, set, lefts())) {
                best = set;
            }
        }
        return best;
    }

    int toDraw(int blade) {
        if (b(blade).state != 1) {
            return 0;
        }
        World w = world.copy();
        int s = w.swallowerOf(blade);
        int bits = 0;
        while (w.blades.get(blade).state == 1) {
            List<Integer> stack = w.throats.get(s).stack;
            bits |= 1 << stack.get(stack.size() - 1);
            w.topOut(s);
        }
        return bits;
    }

    int toSwallow(int what) {
        range(what, 2);
        int best = NONE;
        int without = world.peace();
        int latest = without == NONE ? 1000 : without;
        int delay = NONE;
        for (int b = 0; b < world.blades.size(); b++) {
            World w = world.copy();
            int s = w.leastWithRoom(b);
            if (w.blades.get(b).state == 0 && s != NONE) {
                w.in(b, s);
                int peace = w.peace();
                int day = peace == NONE ? 1000 : peace;
                if (day > latest) {
                    latest = day;
                    best = b;
                    delay = peace;
                }
            }
        }
        return what == 0 ? best : delay;
    }

    private int reach(int house) {
        int met = 1 << house;
        for (int round = 0; round < 6; round++) {
            for (int i = 0; i < 6; i++) {
                for (int j = 0; j < 6; j++) {
                    if ((met >> i & 1) != 0 && world.feud[i][j]) {
                        met |= 1 << j;
                    }
                }
            }
        }
        return met;
    }

    private boolean hasFeud(int house) {
        return reach(house) != 1 << house;
    }

    /** Tries all camps: those of one side, each part's least HOUSE in it. */
    int camps() {
        for (int side = 0; side < 64; side++) {
            boolean fine = true;
            for (int i = 0; i < 6; i++) {
                boolean in = (side >> i & 1) != 0;
                fine &= !in || hasFeud(i);
                if (hasFeud(i) && Integer.numberOfTrailingZeros(reach(i)) == i) {
                    fine &= in;
                }
                for (int j = 0; j < 6; j++) {
                    fine &= !world.feud[i][j] || in != ((side >> j & 1) != 0);
                }
            }
            if (fine) {
                return side;
            }
        }
        return NONE;
    }

    int couples() {
        return couples(0, 0);
    }

    private int couples(int from, int used) {
        int best = 0;
        for (int i = from; i < 6; i++) {
            for (int j = i + 1; j < 6; j++) {
                if (world.feud[i][j] && (used >> i & 1) == 0 && (used >> j & 1) == 0) {
                    best = Math.max(best, 1 + couples(i + 1, used | 1 << i | 1 << j));
                }
            }
        }
        return best;
    }

    int grudge(int house) {
        range(house, 6);
        return world.blades.stream().filter(b -> b.house == house).mapToInt(b -> b.anger).sum();
    }

    int foes(int house, int other) {
        range(house, 6);
        range(other, 6);
        int bits = 0;
        for (int h = 0; h < 6; h++) {
            if (world.feud[house][h] && world.feud[other][h]) {
                bits |= 1 << h;
            }
        }
        return bits;
    }

    int parts() {
        TreeSet<Integer> parts = new TreeSet<>();
        for (int h = 0; h < 6; h++) {
            if (hasFeud(h)) {
                parts.add(reach(h));
            }
        }
        return parts.size();
    }

    int calm(int days) {
        ahead(days);
        return world.after(days).bits(2);
    }

    int lacks(int blade) {
        if (b(blade).state != 0 || world.throats.isEmpty()) {
            return NONE;
        }
        int least = 1000;
        for (int s = 0; s < world.throats.size(); s++) {
            least = Math.min(least, Math.max(0, b(blade).length - world.left(s)));
        }
        return least;
    }

    int above(int blade) {
        return b(blade).state == 1 ? world.above(blade) : NONE;
    }

    int hiccup(int swallower) {
        int h = t(swallower).hiccups;
        for (int d = 1; d <= 30; d++) {
            if (h != 0 && (world.day + d - 1 + 1) % h == 0) {
                return d;
            }
        }
        return NONE;
    }

    int see(int blade, int days, int anger) {
        b(blade);
        if (seen.size() == 8 || days < 0 || days > 30 || anger < 0 || anger > 99) {
            return refused(2);
        }
        seen.add(new int[] {blade, days, anger});
        return seen.size();
    }

    private boolean allSeen(World w) {
        for (int[] one : seen) {
            if (w.after(one[1]).blades.get(one[0]).anger != one[2]) {
                return false;
            }
        }
        return true;
    }

    private List<int[]> toldWrong() {
        List<int[]> list = new ArrayList<>();
        for (int b = 0; b < world.blades.size(); b++) {
            for (int a = 0; a < 100; a++) {
                World w = world.copy();
                w.blades.get(b).anger = a;
                if (world.blades.get(b).anger != a && allSeen(w)) {
                    list.add(new int[] {b, a});
                }
            }
        }
        return list;
    }

    int wrong(int what) {
        range(what, 3);
        if (what == 2) {
            return allSeen(world) ? 1 : 0;
        }
        List<int[]> list = toldWrong();
        if (what == 0) {
            return list.size();
        }
        return list.isEmpty() ? NONE : list.get(0)[0] * 100 + list.get(0)[1];
    }

    int look(int what) {
        range(what, 2);
        List<TreeSet<Integer>> angers = new ArrayList<>();
        for (int b = 0; b < world.blades.size(); b++) {
            angers.add(new TreeSet<>());
        }
        for (int[] one : toldWrong()) {
            World w = world.copy();
            w.blades.get(one[0]).anger = one[1];
            w = w.after(3);
            for (int b = 0; b < world.blades.size(); b++) {
                angers.get(b).add(w.blades.get(b).anger);
            }
        }
        int best = NONE;
        for (int b = 0; b < angers.size(); b++) {
            if (!angers.get(b).isEmpty() && (best == NONE || angers.get(b).size() > angers.get(best).size())) {
                best = b;
            }
        }
        return what == 0 ? best : best == NONE ? 0 : angers.get(best).size();
    }

    void forget() {
        seen.clear();
    }

    private int[] losses(int house, int other, int c1, int c2) {
        World w = world.copy();
        for (int b = 0; b < w.blades.size(); b++) {
            Blade one = w.blades.get(b);
            boolean gives = one.house == house && c1 == 1 || one.house == other && c2 == 1;
            int s = w.leastWithRoom(b);
            if (gives && one.state == 0 && s != NONE) {
                w.in(b, s);
            }
        }
        w = w.after(10);
        int[] loss = {5 * w.houseFights[house], 5 * w.houseFights[other]};
        for (Blade one : w.blades) {
            if (one.state == 1 && one.house == house) {
                loss[0]++;
            }
            if (one.state == 1 && one.house == other) {
                loss[1]++;
            }
        }
        return loss;
    }

    int game(int house, int other, int what) {
        range(house, 6);
        range(other, 6);
        range(what, 2);
        if (!world.feud[house][other]) {
            throw new IllegalArgumentException();
        }
        int many = 0;
        int first = NONE;
        for (int c1 = 0; c1 < 2; c1++) {
            for (int c2 = 0; c2 < 2; c2++) {
                boolean rests = losses(house, other, c1, c2)[0] <= losses(house, other, 1 - c1, c2)[0]
                        && losses(house, other, c1, c2)[1] <= losses(house, other, c1, 1 - c2)[1];
                if (rests) {
                    many++;
                    first = first == NONE ? 10 * c1 + c2 : first;
                }
            }
        }
        return what == 0 ? many : first;
    }

    private int seed;

    private int drawn(int n) {
        seed = (int) (seed * 1103515245L + 12345L);
        return (seed >> 16 & 0x7fff) % n;
    }

    int summer(int firstSeed, int n, int what) {
        range(what, 3);
        ahead(n);
        seed = firstSeed;
        World w = world.copy();
        for (int i = 0; i < n; i++) {
            int x = drawn(7);
            if (x == 0 && !w.blades.isEmpty()) {
                Blade one = w.blades.get(drawn(w.blades.size()));
                if (one.state == 0) {
                    one.anger = Math.min(99, one.anger + 20);
                }
            }
            if (x == 1 && !w.throats.isEmpty()) {
                w.topOut(drawn(w.throats.size()));
            }
            w.pass();
        }
        if (what == 0) {
            return w.fights - world.fights;
        }
        return what == 1 ? Integer.bitCount(w.bits(2)) : w.blades.stream().mapToInt(b -> b.anger).sum();
    }

    void image() {
        saved = new Saved();
        saved.world = world.copy();
        saved.acts = new ArrayList<>(acts);
        saved.seen = new ArrayList<>(seen);
        saved.status = status.clone();
    }

    boolean restore() {
        if (saved == null) {
            return false;
        }
        world = saved.world.copy();
        acts = new ArrayList<>();
        for (World w : saved.acts) {
            acts.add(w.copy());
        }
        seen = new ArrayList<>(saved.seen);
        status = saved.status.clone();
        return true;
    }
}
