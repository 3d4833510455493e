import java.io.IOException;
import java.lang.reflect.Constructor;
import java.lang.reflect.Field;
import java.lang.reflect.Method;
import java.lang.reflect.Modifier;
import java.nio.file.Files;
import java.nio.file.Path;
import java.util.Set;
import java.util.TreeSet;
import java.util.regex.Matcher;
import java.util.regex.Pattern;

/** The face, and what of ../shared/LANGUAGE.md can be seen in the words of the source. */
public final class LanguageTest {
    private static final String FACE = "back() behind(int,int) cheapest(int,int) count(int) counts(int,int,int) "
        + "fair() fault() feigned(int) forget() give(int,int,int) goes(int) greens(int,int,int) keep() lay() "
        + "nearly(int,int,int) never() pause(int,int,int) person(int,int) rank(int,int) seen(int,int,int) "
        + "stop(int,int,int) thing(int,int) undo() wanted(int) wipe() write(int)";
    private static final String[] BARRED = {"throw", "throws", "try", "catch", "finally", "synchronized", "assert",
        "package", "protected", "native", "volatile", "transient", "System\\.out", "System\\.exit", "->", "::"};

    public static void main(String[] args) throws IOException {
        face();
        fields();
        classes();
        words();
        Check.end();
    }

    private static void face() {
        Set<String> open = new TreeSet<>();
        Set<String> hidden = new TreeSet<>();
        Set<String> openNames = new TreeSet<>();
        for (Method m : NearlyBought.class.getDeclaredMethods()) {
            if (Modifier.isPrivate(m.getModifiers())) {
                hidden.add(m.getName());
                continue;
            }
            Check.holds(m + " is public and int", Modifier.isPublic(m.getModifiers()) && m.getReturnType() == int.class
                && !Modifier.isStatic(m.getModifiers()));
            String takes = java.util.Arrays.stream(m.getParameterTypes()).map(Class::getSimpleName)
                .collect(java.util.stream.Collectors.joining(","));
            open.add(m.getName() + "(" + takes + ")");
            openNames.add(m.getName());
        }
        String is = String.join(" ", open);
        Check.holds("the face is " + is, is.equals(FACE));
        hidden.retainAll(openNames);
        Check.holds("no private method bears a public one's name: " + hidden, hidden.isEmpty());
        int bits = NearlyBought.class.getModifiers();
        Check.holds("public and final", Modifier.isPublic(bits) && Modifier.isFinal(bits));
        Constructor<?>[] made = NearlyBought.class.getDeclaredConstructors();
        Check.holds("one public constructor of nothing", made.length == 1 && made[0].getParameterCount() == 0
            && Modifier.isPublic(made[0].getModifiers()));
    }

    private static void fields() {
        Set<String> constants = Set.of("BAD", "NO", "FULL", "NONE");
        int found = 0;
        for (Field f : NearlyBought.class.getDeclaredFields()) {
            int bits = f.getModifiers();
            if (!Modifier.isPrivate(bits)) {
                Check.holds(f + " is of the face", constants.contains(f.getName()) && Modifier.isPublic(bits));
                found++;
            }
            Check.holds(f + ": static only if final", !Modifier.isStatic(bits) || Modifier.isFinal(bits));
        }
        Check.due("constants", found, 4);
        Check.due("BAD", NearlyBought.BAD, -1);
        Check.due("NO", NearlyBought.NO, -2);
        Check.due("FULL", NearlyBought.FULL, -3);
        Check.due("NONE", NearlyBought.NONE, -4);
    }

    private static void classes() {
        Class<?>[] inside = NearlyBought.class.getDeclaredClasses();
        Check.holds("some twelve classes", inside.length <= 11);
        for (Class<?> c : inside) {
            int bits = c.getModifiers();
            Check.holds(c + " is static and not open", Modifier.isStatic(bits) && !Modifier.isPublic(bits)
                && !Modifier.isProtected(bits));
            long state = java.util.Arrays.stream(c.getDeclaredFields())
                .filter(f -> !Modifier.isStatic(f.getModifiers())).count();
            Check.holds(c + " has some twenty fields", state <= 20);
        }
    }

    private static void words() throws IOException {
        String source = Files.readString(Path.of("src/main/java/NearlyBought.java"));
        String code = source.replaceAll("(?s)/\\*.*?\\*/", "").replaceAll("//[^\n]*", "").replaceAll("\"[^\"\n]*\"", "\"\"");
        for (String word : BARRED) {
            String mark = Character.isLetter(word.charAt(0)) ? "\\b" + word + "\\b" : word;
            Check.holds("no " + word, !Pattern.compile(mark).matcher(code).find());
        }
        Check.holds("no text joined by +", !code.contains("\"\" +") && !code.contains("+ \"\""));
        Matcher imports = Pattern.compile("import ([^;]*);").matcher(code);
        Set<String> allowed = Set.of("java.util.Arrays", "java.util.ArrayList", "java.util.List", "java.util.Iterator");
        while (imports.find()) {
            Check.holds("import of " + imports.group(1), allowed.contains(imports.group(1)));
        }
        Check.holds("signs of ASCII", source.chars().allMatch(c -> c == '\n' || c >= 32 && c < 127));
    }
}
