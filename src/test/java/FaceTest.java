import java.io.IOException;
import java.lang.reflect.Constructor;
import java.lang.reflect.Field;
import java.lang.reflect.Method;
import java.lang.reflect.Modifier;
import java.nio.file.Files;
import java.nio.file.Path;
import java.util.Set;
import java.util.TreeSet;
import java.util.regex.Matcher;
import java.util.regex.Pattern;

/** The public face is the document's and no other; the source keeps to what can be seen of LANGUAGE.md by its words. */
public final class FaceTest {
    /** The document's public face, row by row. */
    private static final String FACE = """
            public static final int NONE = -1;
            public SwordPeace();
            public int feed(int a, int b, int c, int d, int e);
            public int city(int n) throws IllegalArgumentException;
            public int fault();
            public int count(int what) throws NoSuchElementException;
            public int blade(int blade, int what) throws NoSuchElementException;
            public int throat(int swallower, int what) throws NoSuchElementException;
            public boolean feud(int house, int other) throws NoSuchElementException;
            public int days(int many);
            public int swallow(int blade, int swallower) throws NoSuchElementException;
            public int draw(int swallower) throws NoSuchElementException;
            public int broth(int swallower, int more) throws NoSuchElementException;
            public boolean make(int house, int other, boolean feud) throws NoSuchElementException;
            public int undo();
            public int then(int blade, int days, int what) throws NoSuchElementException, IllegalArgumentException;
            public int peace();
            public int fights(int days) throws IllegalArgumentException;
            public int rests(int blade) throws NoSuchElementException;
            public int worst(int days) throws IllegalArgumentException;
            public int takeIn(int blade) throws NoSuchElementException;
            public int throats();
            public int toDraw(int blade) throws NoSuchElementException;
            public int toSwallow(int what) throws NoSuchElementException;
            public int camps();
            public int couples();
            public int grudge(int house) throws NoSuchElementException;
            public int foes(int house, int other) throws NoSuchElementException;
            public int parts();
            public int calm(int days) throws IllegalArgumentException;
            public int lacks(int blade) throws NoSuchElementException;
            public int above(int blade) throws NoSuchElementException;
            public int hiccup(int swallower) throws NoSuchElementException;
            public int see(int blade, int days, int anger) throws NoSuchElementException;
            public int wrong(int what) throws NoSuchElementException;
            public int look(int what) throws NoSuchElementException;
            public void forget();
            public int game(int house, int other, int what) throws NoSuchElementException, IllegalArgumentException;
            public int summer(int seed, int n, int what) throws NoSuchElementException, IllegalArgumentException;
            public void image();
            public boolean restore();
            """;

    public static void main(String[] args) throws IOException {
        face();
        classes();
        source();
        Check.end("FaceTest");
    }

    private static void face() {
        Set<String> got = new TreeSet<>();
        Set<String> names = new TreeSet<>();
        for (Method m : SwordPeace.class.getDeclaredMethods()) {
            if (Modifier.isPublic(m.getModifiers())) {
                got.add(told(m.toString(), m.getName()));
                names.add(m.getName());
            } else {
                Check.due(m + " is private", Modifier.isPrivate(m.getModifiers()), true);
            }
        }
        for (Constructor<?> c : SwordPeace.class.getDeclaredConstructors()) {
            got.add(told(c.toString(), "SwordPeace"));
        }
        for (Field f : SwordPeace.class.getDeclaredFields()) {
            boolean hidden = Modifier.isPrivate(f.getModifiers());
            Check.due(f + " is private", hidden, !f.getName().equals("NONE"));
            if (!hidden) {
                got.add(told(f.toString(), f.getName()));
            }
        }
        Check.due("the face is " + got, got.equals(dueFace()), true);
        for (Class<?> c : SwordPeace.class.getDeclaredClasses()) {
            for (Method m : c.getDeclaredMethods()) {
                Check.due(m + " has a name of its own", names.contains(m.getName()), false);
            }
        }
        Check.due("the class is public and final",
                Modifier.isPublic(SwordPeace.class.getModifiers()) && Modifier.isFinal(SwordPeace.class.getModifiers()), true);
        Check.due("NONE", SwordPeace.NONE, -1);
    }

    /** The document's rows as a member tells itself: without parameters' names, values and blanks that join them. */
    private static Set<String> dueFace() {
        Set<String> due = new TreeSet<>();
        for (String row : FACE.strip().split("\n")) {
            due.add(row.replaceAll("(int|boolean) \\w+([,)])", "$1$2").replaceAll(" = -1|;", "").replace(", ", ","));
        }
        return due;
    }

    private static String told(String member, String name) {
        return member.replace("SwordPeace." + name, name).replaceAll("java\\.(lang|util)\\.", "");
    }

    private static void classes() {
        Class<?>[] inside = SwordPeace.class.getDeclaredClasses();
        Check.due("at most twelve classes", inside.length + 1 <= 12, true);
        for (Class<?> c : inside) {
            int mod = c.getModifiers();
            Check.due(c + " is static", Modifier.isStatic(mod), true);
            Check.due(c + " is not public", Modifier.isPublic(mod) || Modifier.isProtected(mod), false);
            int fields = 0;
            for (Field f : c.getDeclaredFields()) {
                fields += Modifier.isStatic(f.getModifiers()) ? 0 : 1;
                Check.due(f + " is final if static",
                        !Modifier.isStatic(f.getModifiers()) || Modifier.isFinal(f.getModifiers()), true);
            }
            Check.due(c + " has few fields", fields <= 20, true);
        }
    }

    private static void source() throws IOException {
        String text = Files.readString(Path.of("src/main/java/SwordPeace.java"));
        String[] not = {"->", "::", "finally", "synchronized", "assert ", "static \\{", "Exact\\(", "try ", "catch",
            "package ", "\\+ \"", "\" \\+", "System\\.(?!arraycopy)", "hashCode", "Object", "float", "double",
            "while \\(true\\)", "for \\(;;\\)", "var "};
        for (String word : not) {
            Check.due("the source has <" + word + ">", Pattern.compile(word).matcher(text).find(), false);
        }
        Matcher imports = Pattern.compile("import [^;]*;").matcher(text);
        while (imports.find()) {
            Check.due(imports.group(), imports.group().equals("import java.util.NoSuchElementException;"), true);
        }
        int length = 0;
        for (String line : text.split("\n")) {
            length = line.matches("(    |        )[a-z].*\\) *(throws .*)?\\{") ? 0 : length + 1;
            if (line.matches("(    |        )\\}")) {
                Check.due("a method of over 60 lines ends at: " + line, length > 60 && line.startsWith("        }"), false);
            }
        }
    }
}
