import java.nio.file.Files;
import java.nio.file.Path;
import java.util.HashMap;
import java.util.Map;
import java.util.TreeSet;
import java.util.regex.Matcher;
import java.util.regex.Pattern;

/** README.md tells the truth: each call of its example answers as the comment beside it says, and all calls are named. */
public final class ReadmeTest {
    private static final Pattern LINE = Pattern.compile("(?:int (\\w+) = )?x\\.(\\w+)\\(([^)]*)\\);\\s*// (-?\\d+)(:.*)?");
    private static int wrong = 0;

    private ReadmeTest() { }

    private static void fail(String what) {
        wrong++;
        System.out.println("readme: " + what);
    }

    private static int example(String code) {
        DripLines x = new DripLines();
        Map<String, Integer> named = new HashMap<>();
        int calls = 0;
        for (String line : code.split("\n")) {
            if (line.isBlank() || line.startsWith("DripLines x = new DripLines();")) continue;
            Matcher parts = LINE.matcher(line);
            if (!parts.matches()) {
                fail("no call with its answer: " + line);
                continue;
            }
            String numbers = parts.group(3);
            for (var name : named.entrySet()) numbers = numbers.replaceAll("\\b" + name.getKey() + "\\b", "" + name.getValue());
            int got = Calls.run(x, Calls.read(parts.group(2) + "(" + numbers + ")").get(0));
            if (got != Integer.parseInt(parts.group(4))) fail("answered " + got + ": " + line);
            if (parts.group(1) != null) named.put(parts.group(1), got);
            calls++;
        }
        return calls;
    }

    private static void namesAllCalls(String table) {
        TreeSet<String> lacking = new TreeSet<>(Calls.face(DripLines.class).keySet());
        Matcher name = Pattern.compile("`(\\w+)`").matcher(table);
        while (name.find()) lacking.remove(name.group(1));
        if (!lacking.isEmpty()) fail("does not name " + lacking);
    }

    public static void main(String[] args) throws Exception {
        Watch.over("readme");
        String text = Files.readString(Path.of("README.md"));
        Matcher code = Pattern.compile("(?s)```java\n(.*?)```").matcher(text);
        int calls = 0;
        while (code.find()) calls += example(code.group(1));
        if (calls == 0) fail("has no example");
        StringBuilder table = new StringBuilder();
        for (String line : text.split("\n")) if (line.startsWith("|")) table.append(line);
        namesAllCalls(table.toString());
        System.out.println("readme: " + calls + " calls, " + (wrong == 0 ? "all as told" : wrong + " wrong"));
        if (wrong != 0) System.exit(1);
    }
}
