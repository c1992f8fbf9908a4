import java.io.ByteArrayOutputStream;
import java.io.IOException;
import java.io.PrintStream;
import java.nio.file.Files;
import java.nio.file.Path;
import java.util.ArrayList;
import java.util.List;
import java.util.regex.MatchResult;
import java.util.regex.Pattern;
import java.util.stream.Stream;

/** What README.md shows must be what the class answers, and the files that it names must be there. */
public final class ReadmeTest extends Desks {
    private static final Path PAGE = Path.of("README.md");
    private static final Path EXAMPLE = Path.of("src/example/java/Example.java");
    private static final Path TESTS = Path.of("src/test/java");

    private static String page;
    private static final List<String> values = new ArrayList<>();

    public static void main(String[] args) throws IOException {
        page = Files.readString(PAGE);
        example();
        values();
        templatesThatPrint();
        templatesThatFail();
        files();
        Check.end("ReadmeTest");
    }

    private static void example() throws IOException {
        is("README shows the program", blocks("java"), List.of(Files.readString(EXAMPLE)));
        is("README shows what it prints", blocks("text"), List.of(printed(() -> Example.main(new String[0]))));
    }

    private static String printed(Runnable program) {
        PrintStream out = System.out;
        ByteArrayOutputStream bytes = new ByteArrayOutputStream();
        System.setOut(new PrintStream(bytes, true));
        try {
            program.run();
        } finally {
            System.setOut(out);
        }
        return bytes.toString().replace("\r\n", "\n");
    }

    private static List<String> blocks(String language) {
        return found("(?ms)^```" + language + "\n(.*?)^```$").map(found -> found.group(1)).toList();
    }

    private static Stream<MatchResult> found(String pattern) {
        return Pattern.compile(pattern).matcher(page).results();
    }

    private static void values() {
        found("(?m)^- `([a-h])` is (?:`(\\S+)`|empty)$")
                .forEach(found -> values.add(found.group(1) + "=" + (found.group(2) == null ? "" : found.group(2))));
        is("README tells values", values.size(), 6);
    }

    private static void templatesThatPrint() {
        List<MatchResult> rows = found("(?m)^\\| [^|]+ \\| `(\\S+)` \\| `(\\S+)` \\|$").toList();
        for (MatchResult row : rows) {
            renders(row.group(1), row.group(2), "0", values.toArray(new String[0]));
        }
        is("README has a row for each kind of part, and one more", rows.size(), 8);
    }

    private static void templatesThatFail() {
        List<MatchResult> rows = found("(?m)^\\| (\\d) \\| [^|]+ \\| `(\\S+)` \\| (\\d+) \\| ([\\d ]+) \\|$").toList();
        for (MatchResult row : rows) {
            TemplateScopes desk = rendered(row.group(2), values.toArray(new String[0]));
            is("failure of " + row.group(2), failure(desk), row.group(1) + ": " + row.group(4));
            is("characters printed of " + row.group(2), desk.outputLength() + "", row.group(3));
        }
        is("README has a row for each reason", rows.stream().map(row -> row.group(1)).toList(),
                List.of("1", "2", "3", "4", "5", "6"));
    }

    private static void files() throws IOException {
        found("(?:\\.\\./shared|src|\\.ci)/[\\w./]*\\w").map(MatchResult::group).distinct()
                .forEach(path -> is("README names a file: " + path, Files.exists(Path.of(path)), true));
        try (Stream<Path> tests = Files.list(TESTS)) {
            tests.map(path -> path.getFileName().toString().replace(".java", ""))
                    .forEach(name -> is("README tells of " + name, page.contains("`" + name + "`"), true));
        }
    }
}
