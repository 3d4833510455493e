import java.io.IOException;
import java.lang.reflect.Method;
import java.lang.reflect.Modifier;
import java.nio.file.Files;
import java.nio.file.Path;
import java.util.List;
import java.util.Map;
import java.util.Set;
import java.util.TreeMap;
import java.util.TreeSet;
import java.util.regex.Matcher;
import java.util.regex.Pattern;
import java.util.stream.Collectors;
import java.util.stream.Stream;

/** README.md: its examples answer what it says, it tells each call with its refusals, and it names each test. */
public final class ReadmeTest {
    private static final Pattern CALL = Pattern.compile("x\\.(\\w+)\\(([-\\d, ]*)\\);\\s*// (-?\\d+)\\b.*");
    private static final Pattern LETTERS = Pattern.compile("for \\(char letter : \"([^\"]*)\"\\.toCharArray\\(\\)\\) \\{");
    private static final Pattern ROW = Pattern.compile("\\| `(\\w+)\\(([\\w, ]*)\\)` \\|.*\\|([^|]*)\\|");
    private static final String MADE = "NearlyBought x = new NearlyBought();";

    /** What the document names with each promise, in its order. */
    private static final Map<String, String> REFUSALS = Map.ofEntries(
        Map.entry("write", "BAD FULL"), Map.entry("wipe", ""), Map.entry("fault", "NONE"), Map.entry("lay", "NO"),
        Map.entry("person", "BAD"), Map.entry("thing", "BAD NONE"), Map.entry("nearly", "BAD NONE"),
        Map.entry("pause", "BAD"), Map.entry("fair", "NO"), Map.entry("give", "BAD NO FULL"), Map.entry("undo", "NO"),
        Map.entry("behind", "BAD NONE"), Map.entry("goes", "BAD NONE"), Map.entry("never", ""),
        Map.entry("stop", "BAD NONE"), Map.entry("rank", "BAD NONE"), Map.entry("wanted", "BAD"),
        Map.entry("seen", "BAD FULL"), Map.entry("forget", ""), Map.entry("feigned", "BAD"),
        Map.entry("counts", "BAD"), Map.entry("cheapest", "BAD NONE"), Map.entry("greens", "BAD"),
        Map.entry("keep", "FULL"), Map.entry("back", "NO"), Map.entry("count", "BAD"));

    public static void main(String[] args) throws IOException {
        List<String> page = Files.readAllLines(Path.of("README.md"));
        Map<String, Integer> face = face();
        examples(page, face);
        calls(page, face);
        constants(page);
        tests(page);
        Check.end();
    }

    /** The public calls, and how many numbers each takes. */
    private static Map<String, Integer> face() {
        Map<String, Integer> face = new TreeMap<>();
        for (Method m : NearlyBought.class.getDeclaredMethods()) {
            if (Modifier.isPublic(m.getModifiers())) {
                face.put(m.getName(), m.getParameterCount());
            }
        }
        return face;
    }

    private static void examples(List<String> page, Map<String, Integer> face) {
        NearlyBought x = null;
        boolean inside = false;
        int blocks = 0;
        int answers = 0;
        for (String line : page) {
            String row = line.strip();
            if (row.startsWith("```")) {
                inside = row.equals("```java");
                blocks += inside ? 1 : 0;
                x = null;
                continue;
            }
            Matcher letters = LETTERS.matcher(row);
            Matcher call = CALL.matcher(row);
            if (!inside || row.isEmpty() || row.equals("x.write(letter);") || row.equals("}")) {
                continue;
            }
            if (row.equals(MADE)) {
                x = new NearlyBought();
            } else if (x != null && letters.matches()) {
                Check.put(x, letters.group(1));
            } else if (x != null && call.matches()) {
                answer(x, row, call, face);
                answers++;
            } else {
                Check.holds("a line of an example that can't be tried: " + row, false);
            }
        }
        Check.holds("examples with answers", blocks >= 2 && answers >= 10);
    }

    private static void answer(NearlyBought x, String row, Matcher call, Map<String, Integer> face) {
        String[] told = call.group(2).isEmpty() ? new String[0] : call.group(2).split(", ");
        if (face.getOrDefault(call.group(1), -1) != told.length) {
            Check.holds("no such call: " + row, false);
            return;
        }
        int[] numbers = new int[3];
        for (int k = 0; k < told.length; k++) {
            numbers[k] = Integer.parseInt(told[k]);
        }
        Check.due(row, Calls.ask(x, call.group(1), numbers), Integer.parseInt(call.group(3)));
    }

    private static void calls(List<String> page, Map<String, Integer> face) {
        Map<String, String> told = new TreeMap<>();
        for (String line : page) {
            Matcher row = ROW.matcher(line);
            if (row.matches()) {
                String name = row.group(1);
                int numbers = row.group(2).isEmpty() ? 0 : row.group(2).split(", ").length;
                Check.due("numbers of " + name, numbers, face.getOrDefault(name, -1));
                Check.holds(name + " is told once", told.put(name, refusals(row.group(3))) == null);
            }
        }
        Check.holds("all calls are told: " + told.keySet(), told.keySet().equals(face.keySet()));
        for (String name : told.keySet()) {
            Check.holds("refusals of " + name + ": " + told.get(name), told.get(name).equals(REFUSALS.get(name)));
        }
    }

    private static String refusals(String column) {
        return Stream.of(column.split("\\W+")).filter(w -> w.matches("BAD|NO|NONE|FULL")).collect(Collectors.joining(" "));
    }

    private static void constants(List<String> page) {
        String[] rows = {"BAD` | " + NearlyBought.BAD, "NO` | " + NearlyBought.NO, "NONE` | " + NearlyBought.NONE,
            "FULL` | " + NearlyBought.FULL};
        int at = -1;
        for (String row : rows) {
            int next = at + 1;
            while (next < page.size() && !page.get(next).startsWith("| `" + row + " |")) {
                next++;
            }
            Check.holds("a row | `" + row + " |, behind the one ahead of it", next < page.size());
            at = next;
        }
    }

    private static void tests(List<String> page) throws IOException {
        Set<String> told = page.stream().map(line -> line.replaceFirst("^\\| (\\w+Test) \\|.*$", "$1"))
            .filter(line -> line.matches("\\w+Test")).collect(Collectors.toCollection(TreeSet::new));
        try (Stream<Path> files = Files.list(Path.of("src/test/java"))) {
            Set<String> there = files.map(f -> f.getFileName().toString()).filter(f -> f.endsWith("Test.java"))
                .map(f -> f.replace(".java", "")).collect(Collectors.toCollection(TreeSet::new));
            Check.holds("tests told " + told + ", there are " + there, told.equals(there));
        }
    }
}
