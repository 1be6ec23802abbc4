import java.io.IOException;
import java.lang.reflect.Method;
import java.lang.reflect.Modifier;
import java.net.URL;
import java.net.URLClassLoader;
import java.nio.file.Files;
import java.nio.file.Path;
import java.util.ArrayList;
import java.util.List;
import java.util.Map;
import java.util.Set;
import java.util.TreeMap;
import java.util.TreeSet;
import java.util.function.LongConsumer;
import java.util.regex.MatchResult;
import java.util.regex.Matcher;
import java.util.regex.Pattern;
import java.util.stream.Collectors;
import javax.tools.ToolProvider;

/** What README.md shows is tried: its code, its tables, and the way to run the tests; run from the project's folder. */
public final class ReadmeTest {
    private static final Pattern BLOCK = Pattern.compile("(?ms)^```java\\n(.*?)^```$");
    private static final Pattern SHOWN = Pattern.compile("^([xy]\\.(\\w+)\\(.*\\));\\s+// (-?\\d+): .*$");
    private static final Pattern ROW = Pattern.compile("(?m)^\\| `([^`]+)` \\| (.*) \\|(.*)\\|$");
    private static final Pattern LIMIT = Pattern.compile("([A-Z]) (\\d+) \\.\\. (\\d+)");
    /** Stands ahead of an item other than t, so that each K may be told. */
    private static final String FIVE = "t9 1 0;t9 1 0;t9 1 0;t9 1 0;t9 1 0;";

    private static Set<String> face() {
        Set<String> names = new TreeSet<>();
        for (Method m : OneSocket.class.getDeclaredMethods()) {
            if (Modifier.isPublic(m.getModifiers())) {
                names.add(m.getName());
            }
        }
        return names;
    }

    private static void same(String what, Object got, Object want) {
        Due.due(what + " " + got + " are " + want, got.equals(want) ? 1 : 0, 1);
    }

    /** Each row "x.call(..);  // N: .." is asked for its answer, every other one runs as it stands. */
    private static void code(String readme) throws Exception {
        List<String> calls = new ArrayList<>();
        List<Long> due = new ArrayList<>();
        Set<String> names = new TreeSet<>();
        StringBuilder body = new StringBuilder();
        for (MatchResult block : BLOCK.matcher(readme).results().toList()) {
            for (String line : block.group(1).lines().toList()) {
                Matcher shown = SHOWN.matcher(line);
                if (shown.matches()) {
                    calls.add(shown.group(1));
                    names.add(shown.group(2));
                    due.add(Long.valueOf(shown.group(3)));
                    body.append("answers.accept(").append(shown.group(1)).append(");\n");
                } else {
                    Due.due("a shown call tells its answer: " + line, line.matches("[xy]\\..*") ? 1 : 0, 0);
                    body.append(line).append('\n');
                }
            }
        }
        same("calls that are shown", names, face());
        List<Long> got = run(body.toString());
        Due.due("answers of the shown code", got.size(), due.size());
        for (int i = 0; i < Math.min(got.size(), due.size()); i++) {
            Due.due(calls.get(i), got.get(i), due.get(i));
        }
    }

    private static List<Long> run(String body) throws Exception {
        List<Long> got = new ArrayList<>();
        Path folder = Files.createTempDirectory("readme");
        Path file = folder.resolve("Shown.java");
        Path classes = folder.resolve("Shown.class");
        Files.writeString(file, "public final class Shown {\n"
                + "public static void run(java.util.function.LongConsumer answers) {\n" + body + "}\n}\n");
        int exit = ToolProvider.getSystemJavaCompiler().run(null, null, null,
                "-cp", System.getProperty("java.class.path"), "-d", folder.toString(), file.toString());
        Due.due("the shown code compiles", exit, 0);
        if (exit == 0) {
            try (URLClassLoader loader = new URLClassLoader(new URL[] {folder.toUri().toURL()})) {
                LongConsumer answers = got::add;
                loader.loadClass("Shown").getMethod("run", LongConsumer.class).invoke(null, answers);
            }
        }
        Files.deleteIfExists(classes);
        Files.deleteIfExists(file);
        Files.deleteIfExists(folder);
        return got;
    }

    private static Map<String, MatchResult> rows(String readme, String heading) {
        int from = readme.indexOf("\n### " + heading + "\n");
        Due.due("there is a part " + heading, from >= 0 ? 1 : 0, 1);
        int next = readme.indexOf("\n##", from + 2);
        String part = from < 0 ? "" : readme.substring(from, next < 0 ? readme.length() : next);
        Map<String, MatchResult> rows = new TreeMap<>();
        ROW.matcher(part).results().forEach(row -> rows.put(row.group(1), row));
        return rows;
    }

    /** Each number of an item at its least and greatest is taken, and beyond these it is the fault. */
    private static void items(String readme) {
        Map<String, MatchResult> rows = rows(readme, "The text");
        same("items", rows.keySet(), Set.of("t L F R;", "h N;", "c K T N;", "d A B;"));
        for (String item : rows.keySet()) {
            Map<String, int[]> limits = new TreeMap<>();
            LIMIT.matcher(rows.get(item).group(3)).results().forEach(m -> limits.put(m.group(1),
                    new int[] {Integer.parseInt(m.group(2)), Integer.parseInt(m.group(3))}));
            String[] tokens = item.replace(";", "").split(" ");
            Due.due("limits told of " + item, limits.size(), tokens.length - 1);
            for (int at = 1; at < tokens.length && limits.size() == tokens.length - 1; at++) {
                int[] limit = limits.get(tokens[at]);
                item(tokens, at, limit[0], limits, true);
                item(tokens, at, limit[1], limits, true);
                item(tokens, at, limit[1] + 1, limits, false);
                if (limit[0] > 0) {
                    item(tokens, at, limit[0] - 1, limits, false);
                }
            }
        }
    }

    private static void item(String[] tokens, int at, int number, Map<String, int[]> limits, boolean good) {
        StringBuilder text = new StringBuilder(tokens[0].equals("t") ? "" : FIVE).append(tokens[0]);
        int place = 0;
        for (int i = 1; i < tokens.length; i++) {
            text.append(' ');
            place = i == at ? text.length() : place;
            // The greatest of the later numbers, lest B be less than A.
            text.append(i == at ? number : limits.get(tokens[i])[i < at ? 0 : 1]);
        }
        text.append(';');
        if (good) {
            Due.told(text.toString());
        } else {
            Due.fault(text.toString(), place);
        }
    }

    /** The table has each call as the document's face has it, with what its promise refuses. */
    private static void calls(String readme, String document) {
        Map<String, MatchResult> rows = rows(readme, "The calls");
        Set<String> due = new TreeSet<>();
        Matcher m = Pattern.compile("(?m)^    public (?:int|long) (\\w+)\\((.*)\\);$").matcher(document);
        while (m.find()) {
            String call = m.group(1) + "(" + m.group(2).replace("int ", "") + ")";
            due.add(call);
            if (rows.containsKey(call)) {
                same("what " + call + " refuses", refused(rows.get(call).group(3)),
                        refused(promise(document, m.group(1))));
            }
        }
        same("calls of the table", rows.keySet(), due);
    }

    private static String promise(String document, String name) {
        int from = document.indexOf(": " + name + "\n");
        int next = document.indexOf("\n## ", Math.max(0, from));
        return from < 0 || next < 0 ? "" : document.substring(from, next);
    }

    private static Set<String> refused(String words) {
        String plain = words.replace("FULL BY", "").replace("NO: BAD", "NO");
        return Pattern.compile("\\b(BAD|STATE|FULL|NO)\\b").matcher(plain).results()
                .map(MatchResult::group).collect(Collectors.toCollection(TreeSet::new));
    }

    private static void ways(String readme) {
        List<String> commands = readme.lines().filter(line -> line.matches(" {4}\\S.*")).map(String::strip)
                .filter(line -> !line.startsWith("x.")).toList();
        same("commands", commands, List.of(".ci/run"));
        Due.due(".ci/run can be run", Files.isExecutable(Path.of(".ci/run")) ? 1 : 0, 1);
        Matcher file = Pattern.compile("`((?:\\.\\./|src/)[\\w./]+)`").matcher(readme);
        while (file.find()) {
            Due.due("there is " + file.group(1), Files.exists(Path.of(file.group(1))) ? 1 : 0, 1);
        }
    }

    public static void main(String[] args) throws Exception {
        String readme = Files.readString(Path.of("README.md"));
        code(readme);
        items(readme);
        calls(readme, document());
        ways(readme);
        Due.end("ReadmeTest");
    }

    private static String document() throws IOException {
        return Files.readString(Path.of("../shared/DOC.md"));
    }
}
