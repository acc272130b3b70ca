import java.io.IOException;
import java.lang.reflect.Method;
import java.lang.reflect.Modifier;
import java.nio.file.DirectoryStream;
import java.nio.file.Files;
import java.nio.file.Path;
import java.util.ArrayList;
import java.util.LinkedHashMap;
import java.util.List;
import java.util.Map;
import java.util.Set;
import java.util.TreeMap;
import java.util.TreeSet;
import java.util.regex.Matcher;
import java.util.regex.Pattern;

/**
 * README.md: its examples are read from the page itself and called line by line, so the page can't tell
 * an answer that the program doesn't give; a line of an example that this test can't read is a fault.
 */
public final class ReadmeTest {
    private static final Check CHECK = new Check();

    private static final Pattern MADE = Pattern.compile("BedsocksKeepRoads x = new BedsocksKeepRoads\\(\\);");
    private static final Pattern LOOP = Pattern.compile("for \\(int i = 0; i < (\\d+); i\\+\\+\\) \\{");
    private static final Pattern CALL = Pattern.compile("x\\.(\\w+)\\((.*)\\); +// (-?\\d+|NO)(: .+)?");
    private static final Pattern NUMBER = Pattern.compile("'(.)'|(-?\\d+)");
    private static final Pattern ROW = Pattern.compile("\\| `(\\w+)\\((.*?)\\)` \\| .* \\| (.*)\\|");
    private static final Pattern REFUSAL = Pattern.compile("`(BAD|STATE|FULL|NO)`|(-\\d+)");

    /** The document's groups, with its calls in its order. */
    private static final String[][] GROUPS = {
        {"The land, the law, sleepers", "count dusk flood feed text force asks sleeper put told knit darn"},
        {"Nights", "night run track comes meet alike"},
        {"What is best", "anew drain turn share"},
        {"Told nights", "judge kinds begins ways whose laws film"},
        {"Floods by lots", "drawn odds image back"},
        {"The host", "sheet cell copy sleepersBy taken"},
    };

    private static final Map<String, Set<Long>> ANSWERED = new TreeMap<>();
    private static final Map<String, String> ROWS = new LinkedHashMap<>();
    private static List<String> lines;
    private static BedsocksKeepRoads x;
    private static int calls;

    public static void main(String[] args) throws Exception {
        lines = Files.readAllLines(Path.of("README.md"));
        examples();
        groups();
        rows();
        refusals();
        files();
        CHECK.end();
    }

    private static void holds(String what, boolean is) {
        CHECK.due(what, is ? 1 : 0, 1);
    }

    // ---- examples

    private static void examples() throws Exception {
        int found = 0;
        for (int i = 0; i < lines.size(); i++) {
            if (lines.get(i).equals("```java")) {
                int end = i + 1;
                while (end < lines.size() && !lines.get(end).equals("```")) {
                    end++;
                }
                example(i + 1, end);
                i = end;
                found++;
            }
        }
        CHECK.at("README.md");
        holds("there are examples in every group", found >= GROUPS.length);
    }

    private static void example(int from, int end) throws Exception {
        CHECK.at("README.md, line " + (from + 1));
        holds("an example begins with a new object", MADE.matcher(lines.get(from)).matches());
        x = new BedsocksKeepRoads();
        calls = 0;
        for (int i = from + 1; i < end; i++) {
            Matcher loop = LOOP.matcher(lines.get(i).strip());
            if (!loop.matches()) {
                line(i, true);
                continue;
            }
            int close = i + 1;
            while (close < end && !lines.get(close).equals("}")) {
                close++;
            }
            int times = Integer.parseInt(loop.group(1));
            for (int k = 0; k < times; k++) {
                for (int j = i + 1; j < close; j++) {
                    line(j, k == times - 1);
                }
            }
            i = close;
        }
        holds("an object is used for 512 calls at most", calls <= 512);
    }

    /** In a loop an answer is told for the last time alone. */
    private static void line(int i, boolean isTold) throws Exception {
        CHECK.at("README.md, line " + (i + 1));
        Matcher call = CALL.matcher(lines.get(i).strip());
        if (!call.matches()) {
            holds("[" + lines.get(i) + "] can be read", false);
            return;
        }
        long got = called(call.group(1), numbers(call.group(2)));
        long want = call.group(3).equals("NO") ? BedsocksKeepRoads.NO : Long.parseLong(call.group(3));
        if (isTold) {
            CHECK.due(call.group(1) + "(" + call.group(2) + ")", got, want);
            ANSWERED.computeIfAbsent(call.group(1), name -> new TreeSet<>()).add(want);
        }
    }

    private static long called(String name, Object[] numbers) throws Exception {
        calls++;
        for (Method method : BedsocksKeepRoads.class.getMethods()) {
            if (method.getName().equals(name) && method.getParameterCount() == numbers.length) {
                return ((Number) method.invoke(x, numbers)).longValue();
            }
        }
        holds("there is a call " + name + " of " + numbers.length + " numbers", false);
        return 0;
    }

    private static Object[] numbers(String told) {
        List<Object> numbers = new ArrayList<>();
        Matcher m = NUMBER.matcher(told);
        while (m.find()) {
            numbers.add(m.group(1) != null ? m.group(1).charAt(0) : Integer.parseInt(m.group(2)));
        }
        for (int i = 0; i < numbers.size(); i++) {
            if (numbers.get(i) instanceof Character sign) {
                numbers.set(i, (int) sign);
            }
        }
        return numbers.toArray();
    }

    // ---- tables

    /** Each call stands in its group, in the document's order. */
    private static void groups() {
        CHECK.at("README.md, groups");
        int at = 0;
        for (String[] group : GROUPS) {
            while (at < lines.size() && !lines.get(at).equals("### " + group[0])) {
                at++;
            }
            holds("there is a group '" + group[0] + "'", at < lines.size());
            StringBuilder found = new StringBuilder();
            for (at++; at < lines.size() && !lines.get(at).startsWith("#"); at++) {
                Matcher row = ROW.matcher(lines.get(at));
                if (row.matches()) {
                    found.append(found.length() == 0 ? "" : " ").append(row.group(1));
                    ROWS.put(row.group(1), lines.get(at));
                }
            }
            holds("'" + group[0] + "' tells " + group[1] + ", here " + found, found.toString().equals(group[1]));
        }
    }

    /** Each call of the face has a row, with as many names of numbers as it takes, and an example. */
    private static void rows() {
        CHECK.at("README.md, rows");
        int face = 0;
        for (Method method : BedsocksKeepRoads.class.getDeclaredMethods()) {
            if (!Modifier.isPublic(method.getModifiers())) {
                continue;
            }
            face++;
            String name = method.getName();
            Matcher row = ROW.matcher(ROWS.getOrDefault(name, ""));
            holds(name + " has a row", row.matches());
            if (row.matches()) {
                int named = row.group(2).isEmpty() ? 0 : row.group(2).split(",").length;
                CHECK.due("how many numbers " + name + " takes", named, method.getParameterCount());
            }
            holds(name + " has an example", ANSWERED.containsKey(name));
        }
        CHECK.due("rows", ROWS.size(), face);
        CHECK.due("calls of the document", face, 38);
    }

    /** Each refusal that a row tells is shown by an example, and each example's refusal is told by its row. */
    private static void refusals() {
        for (Map.Entry<String, String> one : ROWS.entrySet()) {
            CHECK.at("README.md, the row of " + one.getKey());
            Matcher row = ROW.matcher(one.getValue());
            Set<Long> told = new TreeSet<>();
            if (row.matches()) {
                Matcher m = REFUSAL.matcher(row.group(3));
                while (m.find()) {
                    told.add(m.group(1) != null ? named(m.group(1)) : Long.parseLong(m.group(2)));
                }
            }
            Set<Long> shown = ANSWERED.getOrDefault(one.getKey(), new TreeSet<>());
            for (long refusal : told) {
                holds("refusal " + refusal + " is shown", shown.contains(refusal));
            }
            for (long answer : shown) {
                boolean isFault = one.getKey().equals("text") && answer < -100;
                holds("refusal " + answer + " is told", answer >= -1 || isFault || told.contains(answer));
            }
        }
    }

    private static long named(String constant) {
        switch (constant) {
            case "BAD": return BedsocksKeepRoads.BAD;
            case "STATE": return BedsocksKeepRoads.STATE;
            case "FULL": return BedsocksKeepRoads.FULL;
            default: return BedsocksKeepRoads.NO;
        }
    }

    // ---- the rest of the page

    private static void files() throws IOException {
        CHECK.at("README.md, files");
        String page = String.join("\n", lines);
        holds("how many calls an object is used for", page.contains("512 calls"));
        holds("how the tests are run", page.contains(".ci/run"));
        int found = 0;
        try (DirectoryStream<Path> all = Files.newDirectoryStream(Path.of("src/test/java"), "*.java")) {
            for (Path file : all) {
                String name = file.getFileName().toString().replace(".java", "");
                holds(name + " is named", page.contains("`" + name + "`"));
                found++;
            }
        }
        holds("there are files", found > 0);
    }
}
