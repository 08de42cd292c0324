import java.io.IOException;
import java.lang.reflect.InvocationTargetException;
import java.lang.reflect.Method;
import java.nio.file.Files;
import java.nio.file.Path;
import java.util.ArrayList;
import java.util.List;
import java.util.Map;
import java.util.Set;
import java.util.TreeMap;
import java.util.TreeSet;
import java.util.regex.Matcher;
import java.util.regex.Pattern;
import java.util.stream.Stream;

/** What README.md says of the class and of its tests holds as it stands there. */
public final class ReadmeTest {
    private static final Check check = new Check();
    private static final Pattern EXAMPLE =
        Pattern.compile("office\\.(\\w+)\\(([^)]*)\\);\\s+// (-?[0-9]+|NONE|BAD|STATE|FULL)(: .*)?");
    private static final Pattern ROW = Pattern.compile("\\| `(\\w+)\\(([^)]*)\\)` \\| (.*) \\| (.*) \\|");
    private static final Pattern RANGE = Pattern.compile("(\\w+) ([0-9]+) \\.\\. ([0-9]+)");
    private static final Map<String, Integer> REFUSALS = Map.of("NONE", CoalTurns.NONE, "BAD", CoalTurns.BAD,
        "STATE", CoalTurns.STATE, "FULL", CoalTurns.FULL);
    /** For calls in whose rows a range stands: numbers that are taken, so that one at a time can be changed. */
    private static final Map<String, long[]> TAKEN = Map.ofEntries(
        Map.entry("ship", new long[] {0, 0, 1, 1, 0, 1}), Map.entry("ask", new long[] {0, 1}),
        Map.entry("buyer", new long[] {0, 0, 0, 1}), Map.entry("want", new long[] {0, 0, 1}),
        Map.entry("burn", new long[] {0, 0, 0}), Map.entry("store", new long[] {0, 0}),
        Map.entry("feed", new long[] {0, 1}), Map.entry("order", new long[] {0}),
        Map.entry("day", new long[] {0, 0, 0}), Map.entry("clear", new long[] {1}),
        Map.entry("lasts", new long[] {0, 0}), Map.entry("tried", new long[] {0, 1, 0, 0, 0}),
        Map.entry("factor", new long[] {0}));

    private static final Map<String, Method> face = new TreeMap<>();

    public static void main(String[] args) throws IOException {
        for (Method m : CoalTurns.class.getMethods()) {
            if (m.getDeclaringClass() == CoalTurns.class) face.put(m.getName(), m);
        }
        List<String> lines = Files.readAllLines(Path.of("README.md"));
        examplesAnswerSo(lines);
        tableHasEveryCall(lines);
        everyTestIsListed(lines);
        check.end();
    }

    private static int call(CoalTurns x, String name, long[] numbers) {
        Method m = face.get(name);
        Object[] given = new Object[numbers.length];
        for (int i = 0; i < numbers.length; i++) {
            if (m.getParameterTypes()[i] == long.class) given[i] = numbers[i];
            else given[i] = Math.toIntExact(numbers[i]);
        }
        try {
            return (int) m.invoke(x, given);
        } catch (IllegalAccessException | InvocationTargetException e) {
            throw new AssertionError(name, e);
        }
    }

    private static void examplesAnswerSo(List<String> lines) {
        Set<String> used = new TreeSet<>();
        CoalTurns office = null;
        for (String line : lines) {
            if (line.equals("CoalTurns office = new CoalTurns();")) office = new CoalTurns();
            if (!line.startsWith("office.")) continue;
            Matcher m = EXAMPLE.matcher(line);
            boolean read = office != null && m.matches() && face.containsKey(m.group(1));
            check.isTrue("can be read: " + line, read);
            if (!read) continue;
            used.add(m.group(1));
            String due = m.group(3);
            int want = REFUSALS.containsKey(due) ? REFUSALS.get(due) : Integer.parseInt(due);
            check.due(line, call(office, m.group(1), numbers(m.group(2))), want);
        }
        check.isTrue("every call has an example, not only " + used, used.equals(face.keySet()));
    }

    private static long[] numbers(String text) {
        return Stream.of(text.split(", ")).mapToLong(n -> Long.decode(n.replace("L", ""))).toArray();
    }

    private static void tableHasEveryCall(List<String> lines) {
        Set<String> rows = new TreeSet<>();
        Set<String> ranges = new TreeSet<>();
        for (String line : lines) {
            Matcher m = ROW.matcher(line);
            if (!m.matches()) continue;
            String name = m.group(1);
            List<String> parameters = List.of(m.group(2).split(", "));
            check.isTrue("once in the table: " + name, rows.add(name));
            boolean known = face.containsKey(name) && face.get(name).getParameterCount() == parameters.size();
            check.isTrue("as in the face: " + name, known);
            if (known && rangesHold(name, parameters, m.group(4))) ranges.add(name);
        }
        check.isTrue("every call is in the table, not only " + rows, rows.equals(face.keySet()));
        check.isTrue("ranges of " + ranges, ranges.equals(new TreeSet<>(TAKEN.keySet())));
    }

    /** Whether there was a range to be tested. */
    private static boolean rangesHold(String name, List<String> parameters, String refusals) {
        boolean any = false;
        for (String refusal : refusals.split("; ")) {
            String[] words = refusal.split(": ", 2);
            check.isTrue(name + " is refused by " + words[0], REFUSALS.containsKey(words[0]));
            Matcher m = RANGE.matcher(words.length == 2 ? words[1] : "");
            while (m.find()) {
                any = true;
                int at = parameters.indexOf(m.group(1));
                check.isTrue(name + " has " + m.group(1), at >= 0 && TAKEN.containsKey(name));
                if (at < 0 || !TAKEN.containsKey(name)) continue;
                int refused = REFUSALS.get(words[0]);
                int low = Integer.parseInt(m.group(2));
                int high = Integer.parseInt(m.group(3));
                check.range(name + ": " + m.group(1), low, high, refused, n -> withOne(name, at, n));
            }
        }
        return any;
    }

    private static int withOne(String name, int at, int number) {
        CoalTurns x = new CoalTurns();
        x.ship(0, 0, 10, 10, 0, 1);
        x.buyer(0, 0, 10, 10);
        Check.order(x, "turn lot;sell 1", 0);
        Check.feed(x, "turn load;sell 2");
        long[] numbers = TAKEN.get(name).clone();
        numbers[at] = number;
        return call(x, name, numbers);
    }

    private static void everyTestIsListed(List<String> lines) throws IOException {
        Set<String> listed = new TreeSet<>();
        for (String line : lines) {
            if (!line.matches("\\| \\w+Test.*")) continue;
            listed.addAll(List.of(line.split(" \\| ")[0].substring(2).split(", ")));
        }
        Set<String> there = new TreeSet<>();
        try (Stream<Path> files = Files.list(Path.of("src/test/java"))) {
            for (Path file : new ArrayList<>(files.toList())) {
                String name = file.getFileName().toString();
                if (name.endsWith("Test.java")) there.add(name.replace(".java", ""));
            }
        }
        check.isTrue("the tests are " + there + ", listed are " + listed, listed.equals(there));
    }
}
