import java.nio.charset.StandardCharsets;
import java.nio.file.Files;
import java.nio.file.Path;
import java.util.LinkedHashMap;
import java.util.Map;
import java.util.Set;
import java.util.TreeSet;
import java.util.regex.Matcher;
import java.util.regex.Pattern;

/** README.md: its rows of calls answer as it says, and its tables name each call and what it can answer beside a number. */
public final class ReadmeTest {
    private static final Check check = new Check("ReadmeTest");
    private static final Pattern ROW = Pattern.compile("\\| `(\\w+)\\(([a-z, ]*)\\)` \\| .* \\|([A-Z, ]*)\\|");
    private static final String[] ANSWERS = {"BAD", "NO", "FULL", "NONE"};

    /** Up to which number an argument of this name is drawn; from -2 on. */
    private static final Map<String, Integer> BOUNDS = Map.of("letter", 127, "n", 21, "x", 11, "v", 100, "z", 10000, "u", 8, "k", 6, "what", 5);

    private static long seed = 20261120;

    public static void main(String[] args) throws Exception {
        Path root = Path.of(args[0]).toAbsolutePath().getParent().getParent().getParent().getParent();
        String text = Files.readString(root.resolve("README.md"), StandardCharsets.UTF_8);
        run(text);
        sample(text);
        tables(text);
        check.end();
    }

    private static void run(String text) {
        Matcher m = Pattern.compile("```calls\n(.*?)```", Pattern.DOTALL).matcher(text);
        check.due("a run of calls in README.md", m.find() ? 1 : 0, 1);
        Script.told(check, "README.md", m.group(1).split("\n"));
    }

    /** The first lines of README.md in Java, word for word as they stand there, with the answers beside them. */
    private static void sample(String readme) {
        String text = "b0,20;b1,14;w6;w4;s0,4;s1,6;f2;p0,0,3;";
        check.due("the sample's text", readme.contains("String text = \"" + text + "\";") ? 1 : 0, 1);
        Script.told(check, "the sample", "type " + text, "fault = NONE | lay = 2 | best 0 = 10 | say 1 0 0 = 12 | undo = 0");
    }

    private static void tables(String text) {
        Map<String, String[]> rows = new LinkedHashMap<>();
        Matcher m = ROW.matcher(text);
        while (m.find()) {
            check.due(m.group(1) + " stands once", rows.containsKey(m.group(1)) ? 2 : 1, 1);
            rows.put(m.group(1), m.group(2).isEmpty() ? new String[0] : m.group(2).split(", "));
        }
        check.due("calls in the tables", rows.size(), 29);
        Map<String, Set<String>> seen = seen(rows);
        m.reset();
        while (m.find()) {
            Set<String> told = new TreeSet<>();
            for (String word : m.group(3).split(",")) if (!word.isBlank()) told.add(word.trim());
            String call = m.group(1);
            check.due(call + " can answer " + seen.get(call) + ", told " + told, told.equals(seen.get(call)) ? 1 : 0, 1);
        }
    }

    /** What each call answered beside numbers, in many runs of calls whose arguments are drawn. */
    private static Map<String, Set<String>> seen(Map<String, String[]> rows) {
        Map<String, Set<String>> seen = new LinkedHashMap<>();
        for (String call : rows.keySet()) seen.put(call, new TreeSet<>());
        String[] calls = rows.keySet().toArray(new String[0]);
        for (int object = 0; object < 400; object++) {
            Script script = new Script(check, "drawn");
            if (object % 8 == 0) script.run("type " + "f1;".repeat(66) + "f");
            if (object % 8 == 1) script.run("laid b0,5;b3,60;w3;w2;s0,1;s3,9;f0;");
            if (object % 8 == 2) script.run("laid b0,60;b2,60;w1;s0,1;f0;");
            for (int i = 0; i < 250; i++) {
                String call = calls[draw(calls.length)];
                StringBuilder words = new StringBuilder(call);
                for (String name : rows.get(call)) words.append(' ').append(argument(call, name));
                int answer = script.call(words.toString());
                if (answer < 0) seen.get(call).add(answer >= -4 ? ANSWERS[-1 - answer] : String.valueOf(answer));
            }
        }
        return seen;
    }

    private static int argument(String call, String name) {
        // A whole set of numbers that are told is rare when one of six may be off: half are drawn low.
        if (draw(2) == 0) return name.equals("letter") ? 'b' : draw(2) + (call.equals("pass") ? 1 : 0);
        return draw(BOUNDS.getOrDefault(name, 6) + 3) - 2;
    }

    private static int draw(int n) {
        seed = seed * 6364136223846793005L + 1442695040888963407L;
        return (int) ((seed >>> 33) % n);
    }
}
