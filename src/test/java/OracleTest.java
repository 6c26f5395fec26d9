import java.lang.reflect.InvocationTargetException;
import java.lang.reflect.Method;
import java.util.Arrays;
import java.util.HashMap;
import java.util.Map;
import java.util.Random;

/** Long random runs of calls, each answered by the program and by the naive Oracle; the seeds are fixed. */
public final class OracleTest {
    private static final String[] CALLS = {"feed", "city", "fault", "count", "blade", "throat", "feud", "days",
        "swallow", "draw", "broth", "make", "undo", "then", "peace", "fights", "rests", "worst", "takeIn", "throats",
        "toDraw", "toSwallow", "camps", "couples", "grudge", "foes", "parts", "calm", "lacks", "above", "hiccup",
        "see", "wrong", "look", "forget", "game", "summer", "image", "restore"};

    private static final Map<String, Method> METHODS = new HashMap<>();

    private final Random random;
    private final SwordPeace program = new SwordPeace();
    private final Oracle oracle = new Oracle();
    private final StringBuilder log = new StringBuilder();

    private OracleTest(long seed) {
        random = new Random(seed);
    }

    public static void main(String[] args) {
        int runs = args.length > 0 ? Integer.parseInt(args[0]) : 250;
        for (int seed = 0; seed < runs; seed++) {
            OracleTest test = new OracleTest(seed);
            if (!test.run()) {
                System.out.println("seed " + seed + ":\n" + test.log);
                System.exit(1);
            }
        }
        for (int seed = 0; seed < runs * 40; seed++) {
            OracleTest test = new OracleTest(1_000_000 + seed);
            if (!test.textRun()) {
                System.out.println("text seed " + seed + ":\n" + test.log);
                System.exit(1);
            }
        }
        System.out.println("OracleTest: all answers are alike");
    }

    private boolean run() {
        if (!tell(cityText())) {
            return false;
        }
        int calls = random.nextInt(200) + 20;
        for (int i = 0; i < calls; i++) {
            String name = CALLS[random.nextInt(CALLS.length)];
            if (random.nextInt(3) == 0) {
                name = new String[] {"swallow", "days", "swallow", "draw", "see"}[random.nextInt(5)];
            }
            if (name.equals("city")) {
                if (random.nextInt(4) == 0 && !tell(random.nextInt(2) == 0 ? cityText() : broken(cityText()))) {
                    return false;
                }
                continue;
            }
            if (!same(name, arguments(name))) {
                return false;
            }
        }
        return everything();
    }

    private boolean textRun() {
        for (int i = 0; i < 4; i++) {
            if (!tell(random.nextInt(3) == 0 ? cityText() : broken(cityText()))) {
                return false;
            }
        }
        return everything();
    }

    private boolean everything() {
        for (int what = 0; what < 15; what++) {
            if (!same("count", what)) {
                return false;
            }
        }
        for (int b = 0; b < oracle.world.blades.size(); b++) {
            for (int what = 0; what < 7; what++) {
                if (!same("blade", b, what)) {
                    return false;
                }
            }
        }
        for (int s = 0; s < oracle.world.throats.size(); s++) {
            for (int what = 0; what < 5; what++) {
                if (!same("throat", s, what)) {
                    return false;
                }
            }
        }
        return true;
    }

    /** Feeds a text and has it read. */
    private boolean tell(String text) {
        log.append("text: ").append(text.replace('\n', '~')).append('\n');
        same("city", 0);
        for (int i = 0; i < text.length(); i += 20) {
            int[] five = new int[5];
            for (int k = 0; k < 20; k++) {
                int sign = i + k < text.length() ? text.charAt(i + k) : random.nextInt(256);
                five[k / 4] = five[k / 4] << 8 | sign;
            }
            if (!same("feed", five)) {
                return false;
            }
        }
        return same("city", text.length()) && same("fault");
    }

    private int any(int from, int to) {
        return from + random.nextInt(to - from + 1);
    }

    /** Mostly a fitting one, seldom one that is not. */
    private int near(int from, int to) {
        if (random.nextInt(25) == 0) {
            return random.nextInt(4) == 0 ? random.nextInt() : random.nextBoolean() ? from - 1 : to + 1;
        }
        return to < from ? from : any(from, to);
    }

    private int[] arguments(String name) {
        int b = near(0, oracle.world.blades.size() - 1);
        int s = near(0, oracle.world.throats.size() - 1);
        int h = near(0, 5);
        int g = near(0, 5);
        switch (name) {
            case "feed": return new int[] {random.nextInt(), 1, 2, 3, random.nextInt()};
            case "count": return new int[] {near(0, 14)};
            case "blade": return new int[] {b, near(0, 6)};
            case "throat": return new int[] {s, near(0, 4)};
            case "feud": case "foes": return new int[] {h, g};
            case "days": return new int[] {random.nextInt(8) == 0 ? near(1, 20) : near(1, 4)};
            case "swallow": return new int[] {b, s};
            case "draw": case "hiccup": return new int[] {s};
            case "broth": return new int[] {s, near(1, 20)};
            case "make": return new int[] {h, g, random.nextInt(2)};
            case "then": return new int[] {b, near(0, 60), near(0, 1)};
            case "fights": case "worst": case "calm": return new int[] {near(0, 60)};
            case "rests": case "toDraw": case "lacks": case "above": return new int[] {b};
            case "takeIn": return new int[] {random.nextInt(3) == 0 ? -1 : b};
            case "toSwallow": case "look": return new int[] {near(0, 1)};
            case "grudge": return new int[] {h};
            case "see": return sight(b);
            case "wrong": return new int[] {near(0, 2)};
            case "game": return feuding(h, g);
            case "summer": return new int[] {random.nextInt(), near(0, 60), near(0, 2)};
            default: return new int[0];
        }
    }

    private int[] feuding(int h, int g) {
        for (int tries = 0; tries < 20; tries++) {
            int a = any(0, 5);
            int b = any(0, 5);
            if (oracle.world.feud[a][b]) {
                return new int[] {a, b, near(0, 1)};
            }
        }
        return new int[] {h, g, near(0, 1)};
    }

    /** Often what will be so, or would be so by another anger, so that doubts remain. */
    private int[] sight(int b) {
        int days = random.nextInt(3) == 0 ? near(0, 30) : near(0, 4);
        if (b < 0 || b >= oracle.world.blades.size() || days < 0 || days > 30 || random.nextInt(4) == 0) {
            return new int[] {b, days, near(0, 99)};
        }
        Oracle.World w = oracle.world.copy();
        if (random.nextBoolean()) {
            w.blades.get(random.nextInt(w.blades.size())).anger = any(0, 99);
        }
        return new int[] {b, days, w.after(days).blades.get(b).anger};
    }

    private boolean same(String name, int... a) {
        if ((name.equals("takeIn") || name.equals("throats")) && oracle.waysToTakeIn() > 300_000) {
            return true;
        }
        String due = answer(oracle, name, a);
        String got = answer(program, name, a);
        log.append(name).append(Arrays.toString(a)).append(" due ").append(due).append(", got ").append(got)
                .append('\n');
        return due.equals(got);
    }

    /** The answer as a text; an exception by its name; whatever the program should not throw ends in a difference. */
    private static String answer(Object x, String name, int[] a) {
        Method method = METHODS.computeIfAbsent(x.getClass().getName() + name + a.length, key -> find(x, name, a.length));
        Object[] arguments = new Object[a.length];
        for (int i = 0; i < a.length; i++) {
            arguments[i] = method.getParameterTypes()[i] == boolean.class ? (Object) (a[i] == 1) : (Object) a[i];
        }
        try {
            return String.valueOf(method.invoke(x, arguments));
        } catch (InvocationTargetException e) {
            return e.getCause().getClass().getSimpleName();
        } catch (IllegalAccessException e) {
            throw new IllegalStateException(e);
        }
    }

    private static Method find(Object x, String name, int parameters) {
        for (Method method : x.getClass().getDeclaredMethods()) {
            if (method.getName().equals(name) && method.getParameterCount() == parameters) {
                return method;
            }
        }
        throw new IllegalStateException(name);
    }

    // ---- texts

    private String cityText() {
        StringBuilder text = new StringBuilder();
        int feuds = any(0, 9);
        boolean[] met = new boolean[36];
        for (int i = 0; i < feuds; i++) {
            int a = any(0, 5);
            int b = any(0, 5);
            if (a != b && !met[a * 6 + b]) {
                met[a * 6 + b] = true;
                met[b * 6 + a] = true;
                text.append("feud ").append(a).append(' ').append(b).append(';');
            }
        }
        int throats = random.nextInt(4) == 0 ? any(0, 5) : any(1, 3);
        for (int i = 0; i < throats; i++) {
            text.append("swallower ").append(any(1, random.nextBoolean() ? 99 : 40)).append(' ')
                    .append(random.nextInt(2) * any(0, random.nextBoolean() ? 5 : 30)).append(";\n");
        }
        int blades = random.nextInt(3) == 0 ? any(0, 10) : any(2, 6);
        for (int i = 0; i < blades; i++) {
            text.append("blade ").append(any(0, random.nextBoolean() ? 5 : 2)).append(' ').append(any(1, 40))
                    .append(' ').append(random.nextInt(5) == 0 ? any(0, 3) : any(0, 99)).append(';');
        }
        if (random.nextBoolean()) {
            text.append(" patience ").append(any(1, 99)).append(';');
        }
        if (random.nextBoolean()) {
            line(text, "cools ", true);
        }
        if (random.nextBoolean()) {
            line(text, "rises ", false);
        }
        return text.length() > 700 ? cityText() : text.toString();
    }

    private void line(StringBuilder text, String word, boolean cooling) {
        text.append(word);
        int before = text.length();
        expr(text, random.nextInt(4) + 1, cooling);
        if (text.length() > before + 250) {
            text.setLength(before);
            text.append("3");
        }
        text.append(';');
    }

    private void expr(StringBuilder text, int deep, boolean cooling) {
        if (deep == 0 || random.nextInt(6) == 0) {
            String[] names = {"anger", "length", "day", "foes", "within", "above"};
            if (random.nextBoolean()) {
                text.append(names[random.nextInt(cooling ? 6 : 4)]);
            } else {
                text.append(random.nextInt(4) == 0 ? any(0, 9999) : any(0, 12));
            }
            return;
        }
        if (random.nextInt(8) == 0) {
            text.append("not ");
            text.append('(');
            expr(text, deep - 1, cooling);
            text.append(')');
            return;
        }
        boolean left = random.nextInt(3) == 0;
        boolean right = random.nextInt(3) == 0;
        text.append(left ? "(" : "");
        expr(text, deep - 1, cooling);
        text.append(left ? ")" : "");
        String[] signs = {" or ", " and ", "<", "=", "+", "-", "*", "/", "+", "*", "/", " and not "};
        text.append(signs[random.nextInt(signs.length)]);
        text.append(right ? "(" : "");
        expr(text, deep - 1, cooling);
        text.append(right ? ")" : "");
    }

    private static final String[] PIECES = {"feud", "feud 0 1;", "feud 3 2;", "swallower", "swallower 9 0;", "blade",
        "blade 1 1 1;", "patience", "patience 9;", "cools", "rises", "cools 1;", "rises 1;", "anger", "within",
        "above", "foes", "not", "not not", "not not not not not not", "or", "and", "(", ")", "((((((", "(((((", "))))))",
        "+", "-", "*", "/", "<", "=", ";", " ", "\n", "#", "A", "\t", "99999", "00000", "0001", "100", "41", "31", "6",
        "0", "x", "" + (char) 200, "cools ((((((1))))));", "rises (((((1)))));", "1+not 1", "1<2<3"};

    /** A text with some pieces put in, taken away or cut short. */
    private String broken(String text) {
        StringBuilder b = new StringBuilder(text);
        int changes = any(1, 3);
        for (int i = 0; i < changes; i++) {
            int place = random.nextInt(b.length() + 1);
            switch (random.nextInt(4)) {
                case 0:
                    b.setLength(place);
                    break;
                case 1:
                    if (place < b.length()) {
                        b.deleteCharAt(place);
                    }
                    break;
                default:
                    b.insert(place, PIECES[random.nextInt(PIECES.length)]);
            }
        }
        b.setLength(Math.min(700, b.length()));
        return b.toString();
    }
}
