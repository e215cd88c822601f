import java.io.ByteArrayOutputStream;
import java.io.IOException;
import java.io.PrintStream;
import java.net.URL;
import java.net.URLClassLoader;
import java.nio.file.Files;
import java.nio.file.Path;
import java.util.ArrayList;
import java.util.List;
import java.util.Set;
import java.util.TreeSet;
import java.util.regex.MatchResult;
import java.util.regex.Pattern;
import javax.tools.ToolProvider;

/** README.md tells how to use the class: its program, its rows of calls and its constants are held against the class. */
public final class ReadmeTest {
    private static final Due due = new Due();

    public static void main(String[] args) throws Exception {
        String page = Files.readString(Path.of("README.md"));
        String program = block(page, "java");
        String shown = block(page, "text");
        due.isTrue("README.md: its program prints what is shown: " + shown, !shown.isEmpty() && printed(program).equals(shown));
        rows(page, text(program));
        constants(page);
        commands(page);
        due.close();
    }

    /** What stands between the first fence of this sort and the next one. */
    private static String block(String page, String sort) {
        List<MatchResult> found = all("(?s)\n```" + sort + "\n(.*?)```", page);
        return found.isEmpty() ? "" : found.get(0).group(1);
    }

    private static List<MatchResult> all(String pattern, String in) {
        return Pattern.compile(pattern).matcher(in).results().toList();
    }

    private static String printed(String program) throws Exception {
        Path out = Files.createTempDirectory("readme");
        Path file = out.resolve("Example.java");
        Files.writeString(file, program);
        String[] call = {"-d", out.toString(), "src/main/java/SnowReign.java", file.toString()};
        int refused = ToolProvider.getSystemJavaCompiler().run(null, null, null, call);
        due.is("README.md: javac of its program", refused, 0);
        String lines = refused == 0 ? run(out) : "";
        empty(out);
        return lines;
    }

    private static String run(Path out) throws Exception {
        PrintStream before = System.out;
        ByteArrayOutputStream bytes = new ByteArrayOutputStream();
        // No parent but the library's: the class that was compiled here is the one that runs.
        try (URLClassLoader loader = new URLClassLoader(new URL[] {out.toUri().toURL()}, ClassLoader.getPlatformClassLoader())) {
            System.setOut(new PrintStream(bytes, true));
            loader.loadClass("Example").getMethod("main", String[].class).invoke(null, (Object) new String[0]);
        } finally {
            System.setOut(before);
        }
        return bytes.toString().replace(System.lineSeparator(), "\n");
    }

    private static void empty(Path folder) throws IOException {
        try (var files = Files.list(folder)) {
            for (Path file : files.toList()) {
                Files.delete(file);
            }
        }
        Files.delete(folder);
    }

    private static String text(String program) {
        List<MatchResult> found = all("\"([^\"]*)\"\\.toCharArray", program);
        return found.isEmpty() ? "" : found.get(0).group(1);
    }

    /** The rows of calls, in the order of the document's face; what they show is one run. */
    private static void rows(String page, String text) throws IOException {
        String doc = Files.readString(Path.of("../shared/DOC.md"));
        List<String> face = new ArrayList<>();
        for (MatchResult told : all("    public (?:int|long) (\\w+)\\((.*)\\);", doc)) {
            face.add(told.group(1) + "(" + told.group(2).replace("int ", "") + ")");
        }
        due.is("calls that the document tells", face.size(), 43);
        SnowReign x = new SnowReign();
        Script.run(x, Script.plain("tell(" + text + ")"));
        List<String> shown = new ArrayList<>();
        for (MatchResult row : all("\n\\| `(\\w+\\([^)]*\\))` \\|.*\\|(.*)\\|(.*)\\|(?=\n)", page)) {
            shown.add(row.group(1));
            int promise = face.indexOf(row.group(1)) + 2;
            String name = row.group(1).replaceAll("\\(.*", "");
            List<MatchResult> calls = all("`(\\w+\\([^)]*\\))` (-?\\d+)", row.group(3));
            due.isTrue("README.md, promise " + promise + ": " + name + " is shown", !calls.isEmpty());
            due.isTrue("README.md, promise " + promise + ": " + name + " is refused by " + refusals(promised(doc, promise)) + ", not " + row.group(2),
                refusals(promised(doc, promise)).equals(refusals(row.group(2))));
            for (MatchResult call : calls) {
                due.isTrue("README.md, promise " + promise + ": " + call.group(1) + " is of " + name, call.group(1).startsWith(name + "("));
                due.is("README.md, promise " + promise + ": " + call.group(1), Script.run(x, List.of(call.group(1))), Long.parseLong(call.group(2)));
            }
        }
        due.isTrue("README.md has a row for each call, in order: " + face + ", not " + shown, shown.equals(face));
    }

    private static String promised(String doc, int promise) {
        List<MatchResult> found = all("(?s)\n## Promise " + promise + ":(.*?)\n## ", doc);
        return found.isEmpty() ? "" : found.get(0).group(1).replace("61 for NONE", "");
    }

    private static Set<String> refusals(String told) {
        Set<String> found = new TreeSet<>();
        all("\\b(?:BAD|STATE|FULL|NONE)\\b", told).forEach(one -> found.add(one.group()));
        return found;
    }

    private static void constants(String page) {
        String told = "";
        for (MatchResult row : all("\n\\| `([A-Z]+)` \\| (-?\\d+) \\|", page)) {
            told += row.group(1) + row.group(2) + " ";
        }
        String want = "BAD" + SnowReign.BAD + " STATE" + SnowReign.STATE + " FULL" + SnowReign.FULL + " NONE" + SnowReign.NONE + " ";
        due.isTrue("README.md tells the constants " + want + ", not " + told, told.equals(want));
    }

    /** What one is told to type names files that are there, and each test of the project is told of. */
    private static void commands(String page) throws IOException {
        for (MatchResult file : all("(?m)(?<=[ ])(?:\\.\\./shared|src|\\.ci)/\\S+$|(?<= )src/main/java/\\S+", String.join("\n", lines(page)))) {
            due.isTrue("README.md names " + file.group() + ", which is there", Files.exists(Path.of(file.group())));
        }
        try (var files = Files.list(Path.of("src/test/java"))) {
            for (Path file : files.toList()) {
                String name = file.getFileName().toString().replace(".java", "");
                boolean told = page.contains("`" + name + "`") || name.startsWith("EdgesOf") && page.contains("`EdgesOf...Test`");
                due.isTrue("README.md tells of " + name, told || !name.endsWith("Test"));
            }
        }
    }

    private static List<String> lines(String page) {
        return page.lines().filter(line -> line.startsWith("    ")).toList();
    }
}
