import java.io.IOException;
import java.nio.file.Files;
import java.nio.file.Path;
import java.util.ArrayList;
import java.util.LinkedHashMap;
import java.util.List;
import java.util.Map;

/**
 * Tests of single sentences of the document. Each quotes its sentence, and the quote must stand
 * in the section that it names; at the end each sentence of the sections must have been quoted.
 */
abstract class Edges extends Desks {
    private static final Path DOCUMENT = Path.of("../shared/DOC.md");
    /** Sections that name no answer: the first ones, and the last one. */
    private static final List<String> WITHOUT_ANSWERS = List.of("What it is", "The public face", "Not promised");

    /** Headings that stand in the document without a "#". */
    private static final List<String> BARE_HEADINGS = List.of("Names, values", "Undo, the snapshot");

    private static final Map<String, List<String>> sections = read();
    private static final Map<String, List<String>> quotes = new LinkedHashMap<>();
    private static String section = "";
    private static int tests;

    /** The lines of each section, by its heading without what stands behind a colon. */
    private static Map<String, List<String>> read() {
        Map<String, List<String>> read = new LinkedHashMap<>();
        String heading = "";
        try {
            for (String line : Files.readAllLines(DOCUMENT)) {
                if (line.startsWith("#") || BARE_HEADINGS.contains(line)) {
                    heading = line.replaceAll("^#+ ", "").replaceAll(":.*", "");
                } else if (!line.isBlank() && !line.startsWith("```")) {
                    read.computeIfAbsent(heading, h -> new ArrayList<>()).add(line.strip());
                }
            }
        } catch (IOException e) {
            throw new IllegalStateException(e);
        }
        return read;
    }

    /** The tests that follow are of the sentences of this section. */
    static void in(String heading) {
        section = heading;
    }

    static void promise(int number) {
        in("Promise " + number);
    }

    /** Runs the test of one sentence; "what" tells which edge of it. */
    static void edge(String sentence, String what, Runnable test) {
        tests++;
        Check.within(section + ", \"" + sentence + "\": " + what);
        quotes.computeIfAbsent(section, s -> new ArrayList<>()).add(sentence);
        is("the document has the sentence", sections.getOrDefault(section, List.of()).stream()
                .anyMatch(line -> line.contains(sentence)), true);
        try {
            test.run();
        } catch (RuntimeException e) {
            is("the test runs to its end", e, "no exception");
        }
        Check.within("");
    }

    /** Each sentence must hold a quote, or be held by one. */
    static void eachSentenceIsQuoted() {
        sections.forEach((heading, lines) -> {
            List<String> quoted = quotes.getOrDefault(heading, List.of());
            for (String line : WITHOUT_ANSWERS.contains(heading) ? List.<String>of() : lines) {
                for (String sentence : line.replaceAll("^(`[^`]*\\([^`]*`: |- )", "").split("(?<=[.;]|\\.\\)) +")) {
                    if (!sentence.startsWith("Ahead of the calls") && !sentence.endsWith(":")) {
                        is(heading + " has a test of \"" + sentence + "\"", quoted.stream()
                                .anyMatch(quote -> quote.contains(sentence) || sentence.contains(quote)), true);
                    }
                }
            }
        });
        System.out.println(tests + " tests of single sentences");
    }
}
