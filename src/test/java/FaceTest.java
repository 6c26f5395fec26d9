import java.io.IOException;
import java.lang.reflect.Constructor;
import java.lang.reflect.Field;
import java.lang.reflect.Method;
import java.lang.reflect.Modifier;
import java.nio.file.Files;
import java.nio.file.Path;
import java.util.Set;
import java.util.TreeSet;
import java.util.regex.Matcher;
import java.util.regex.Pattern;

/** The public face is the document's and no other; the source keeps to what can be seen of LANGUAGE.md by its words. */
public final class FaceTest {
    private static final String FACE = "feed(IIIII)I city(I)I fault()I count(I)I blade(II)I throat(II)I feud(II)Z "
            + "days(I)I swallow(II)I draw(I)I broth(II)I make(IIZ)Z undo()I then(III)I peace()I fights(I)I rests(I)I "
            + "worst(I)I takeIn(I)I throats()I toDraw(I)I toSwallow(I)I camps()I couples()I grudge(I)I foes(II)I "
            + "parts()I calm(I)I lacks(I)I above(I)I hiccup(I)I see(III)I wrong(I)I look(I)I forget()V game(III)I "
            + "summer(III)I image()V restore()Z";

    public static void main(String[] args) throws IOException {
        face();
        classes();
        source();
        Check.end("FaceTest");
    }

    private static void face() {
        Set<String> due = new TreeSet<>(Set.of(FACE.split(" ")));
        Set<String> got = new TreeSet<>();
        Set<String> names = new TreeSet<>();
        for (Method m : SwordPeace.class.getDeclaredMethods()) {
            if (Modifier.isPublic(m.getModifiers())) {
                got.add(m.getName() + m.toString().replaceAll(".*\\((.*)\\).*", "($1)").replace("int", "I")
                        .replace("boolean", "Z").replace(",", "")
                        + m.getReturnType().descriptorString());
                names.add(m.getName());
            } else {
                Check.due(m + " is private", Modifier.isPrivate(m.getModifiers()), true);
            }
        }
        Check.due("the public methods are " + got, got.equals(due), true);
        for (Class<?> c : SwordPeace.class.getDeclaredClasses()) {
            for (Method m : c.getDeclaredMethods()) {
                Check.due(m + " has a name of its own", names.contains(m.getName()), false);
            }
        }
        for (Field f : SwordPeace.class.getDeclaredFields()) {
            Check.due(f + " is private", Modifier.isPrivate(f.getModifiers()), !f.getName().equals("NONE"));
        }
        Constructor<?>[] made = SwordPeace.class.getDeclaredConstructors();
        Check.due("one constructor", made.length, 1);
        Check.due("it is public", Modifier.isPublic(made[0].getModifiers()), true);
        Check.due("the class is public and final",
                Modifier.isPublic(SwordPeace.class.getModifiers()) && Modifier.isFinal(SwordPeace.class.getModifiers()), true);
        Check.due("NONE", SwordPeace.NONE, -1);
    }

    private static void classes() {
        Class<?>[] inside = SwordPeace.class.getDeclaredClasses();
        Check.due("at most twelve classes", inside.length + 1 <= 12, true);
        for (Class<?> c : inside) {
            int mod = c.getModifiers();
            Check.due(c + " is static", Modifier.isStatic(mod), true);
            Check.due(c + " is not public", Modifier.isPublic(mod) || Modifier.isProtected(mod), false);
            int fields = 0;
            for (Field f : c.getDeclaredFields()) {
                fields += Modifier.isStatic(f.getModifiers()) ? 0 : 1;
                Check.due(f + " is final if static",
                        !Modifier.isStatic(f.getModifiers()) || Modifier.isFinal(f.getModifiers()), true);
            }
            Check.due(c + " has few fields", fields <= 20, true);
        }
    }

    private static void source() throws IOException {
        String text = Files.readString(Path.of("src/main/java/SwordPeace.java"));
        String[] not = {"->", "::", "finally", "synchronized", "assert ", "static \\{", "Exact\\(", "try ", "catch",
            "package ", "\\+ \"", "\" \\+", "System\\.(?!arraycopy)", "hashCode", "Object", "float", "double",
            "while \\(true\\)", "for \\(;;\\)", "var "};
        for (String word : not) {
            Check.due("the source has <" + word + ">", Pattern.compile(word).matcher(text).find(), false);
        }
        Matcher imports = Pattern.compile("import [^;]*;").matcher(text);
        while (imports.find()) {
            Check.due(imports.group(), imports.group().equals("import java.util.NoSuchElementException;"), true);
        }
        int length = 0;
        for (String line : text.split("\n")) {
            length = line.matches("(    |        )[a-z].*\\) *(throws .*)?\\{") ? 0 : length + 1;
            if (line.matches("(    |        )\\}")) {
                Check.due("a method of over 60 lines ends at: " + line, length > 60 && line.startsWith("        }"), false);
            }
        }
    }
}
