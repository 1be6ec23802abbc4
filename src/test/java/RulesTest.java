import java.io.IOException;
import java.nio.file.Files;
import java.nio.file.Path;
import java.util.List;
import java.util.Set;
import java.util.TreeSet;
import java.util.regex.Matcher;
import java.util.regex.Pattern;

/** Those rules of LANGUAGE.md that a look at the source can tell; run from the project's folder. */
public final class RulesTest {
    private static final Path SOURCE = Path.of("src/main/java/OneSocket.java");
    private static final List<String> RULED_OUT = List.of(
            "\\bimport\\b", "\\bpackage\\b", "\\bthrow\\b", "\\bthrows\\b", "\\btry\\b", "\\bcatch\\b",
            "\\bfinally\\b", "\\bsynchronized\\b", "\\bassert\\b", "\\bprotected\\b", "->", "::", "Exact\\b",
            "\\bstatic\\s*\\{", "@", "\\bhashCode\\b", "\\btoString\\b", "\\bSystem\\.(?!arraycopy)", "\\bvar\\b");
    private static final Pattern METHOD = Pattern.compile(
            "(?m)^( {4}| {8})((?:private |public |static )*)(?:int|long|boolean|void) (\\w+)\\(([^)]*)\\) \\{");

    private static String withoutComments(String source) {
        return source.replaceAll("(?s)/\\*.*?\\*/", "").replaceAll("//[^\\n]*", "");
    }

    private static void words(String code) {
        for (String word : RULED_OUT) {
            Matcher m = Pattern.compile(word).matcher(code);
            Due.due("source has " + word, m.find() ? 1 : 0, 0);
        }
        Due.due("signs beyond 127", code.chars().filter(c -> c > 127).count(), 0);
    }

    private static void methods(String code) {
        Set<String> face = new TreeSet<>();
        Set<String> others = new TreeSet<>();
        Matcher m = METHOD.matcher(code);
        while (m.find()) {
            (m.group(2).contains("public") ? face : others).add(m.group(3));
            int parameters = m.group(4).isBlank() ? 0 : m.group(4).split(",").length;
            Due.due(m.group(3) + " takes seven parameters at most", Math.max(7, parameters), 7);
            int end = code.indexOf("\n" + m.group(1) + "}", m.end());
            long lines = code.substring(m.start(), end).lines().count() + 1;
            Due.due(m.group(3) + " has sixty lines at most", Math.max(60, lines), 60);
        }
        Due.due("methods of the face", face.size(), 24);
        others.retainAll(face);
        Due.due("names of the face borne by others " + others, others.size(), 0);
    }

    private static void classes(String code) {
        Due.due("twelve classes at most",
                Math.max(12, Pattern.compile("\\bclass \\w+").matcher(code).results().count()), 12);
    }

    /** All calls of a run share one room, so rows are made with the object and never by a call. */
    private static void nothingIsMadeByCalls(String code) {
        for (String line : code.lines().toList()) {
            if (line.contains("new ")) {
                boolean field = line.matches(" +(private )?final .*");
                boolean constructor = line.startsWith("        kinds[");
                Due.due("made with the object: " + line.strip(), field || constructor ? 1 : 0, 1);
            }
        }
    }

    public static void main(String[] args) throws IOException {
        String code = withoutComments(Files.readString(SOURCE));
        words(code);
        methods(code);
        classes(code);
        nothingIsMadeByCalls(code);
        Due.end("RulesTest");
    }
}
