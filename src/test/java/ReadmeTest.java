import java.io.IOException;
import java.nio.file.Files;
import java.nio.file.Path;
import java.util.List;
import java.util.Set;
import java.util.TreeSet;
import java.util.regex.MatchResult;
import java.util.regex.Pattern;
import java.util.stream.Collectors;
import java.util.stream.Stream;

/** What README.md says of the class and of its tests is so. */
final class ReadmeTest {
    private static final Path README = Path.of("README.md");
    private static final Path DOCUMENT = Path.of("../shared/DOC.md");
    private static final Path TESTS = Path.of("src/test/java");

    public static void main(String[] args) throws IOException {
        String page = Files.readString(README);
        String document = Files.readString(DOCUMENT);
        exampleAnswersAsTold(page);
        scriptHolds(page);
        callsAreTheDocuments(page, document);
        findingsAreTheDocuments(page, document);
        testsAreThere(page);
        commandsAreThere(page);
        Due.end();
    }

    private static List<MatchResult> all(String pattern, String text) {
        return Pattern.compile(pattern).matcher(text).results().toList();
    }

    private static Set<String> firsts(String pattern, String text) {
        return all(pattern, text).stream().map(m -> m.group(1))
                .collect(Collectors.toCollection(TreeSet::new));
    }

    private static void exampleAnswersAsTold(String page) {
        Calls field = new Calls();
        List<MatchResult> told = all("(?m)^field\\.(\\w+)\\((.*?)\\); +// (-?\\d+): .+$", page);
        Due.is("every call of the example tells its answer", told.size(),
                all("(?m)^field\\.", page).size());
        Due.isTrue("the example has calls", !told.isEmpty());
        for (MatchResult line : told) {
            int[] numbers = Stream.of(line.group(2).split(", ")).filter(word -> !word.isEmpty())
                    .mapToInt(Integer::parseInt).toArray();
            Due.is("README: " + line.group(), field.ask(line.group(1), numbers),
                    Long.parseLong(line.group(3)));
        }
    }

    private static void scriptHolds(String page) {
        List<MatchResult> scripts = all("Script\\.run\\(\"(.+?)\", \"\"\"\n((?s:.+?))\"\"\"\\);", page);
        Due.is("the page shows one script", scripts.size(), 1);
        for (MatchResult script : scripts) {
            Script.run("README: " + script.group(1), script.group(2));
        }
    }

    /** The name and parameters of each call stand in the face, its number in the promise's heading. */
    private static void callsAreTheDocuments(String page, String document) {
        Set<String> face = new TreeSet<>();
        for (MatchResult call : all("(?m)^    public \\w+ (\\w+)\\((.*)\\);$", document)) {
            face.add(call.group(1) + "(" + call.group(2).replaceAll("\\w+ (\\w+)", "$1") + ")");
        }
        List<MatchResult> told = all("(?m)^\\| `((\\w+)\\(.*?\\))` \\| (\\d+) \\| .+ \\|$", page);
        Due.is("calls of the page", told.size(), face.size());
        Due.isTrue("the page's calls are those of the face " + face,
                firsts("(?m)^\\| `(\\w+\\(.*?\\))` ", page).equals(face));
        for (MatchResult call : told) {
            Due.isTrue(call.group(1) + " is promise " + call.group(3),
                    document.contains("## Promise " + call.group(3) + ": " + call.group(2) + "\n"));
        }
    }

    private static void findingsAreTheDocuments(String page, String document) {
        List<MatchResult> told = all("(?m)^\\| (-\\d+) \\| (\\w+) \\|$", page);
        Due.is("findings of the page", told.size(), 5);
        for (MatchResult finding : told) {
            String words = finding.group(1) + " " + finding.group(2);
            Due.isTrue("the document names the finding " + words, document.contains(words));
        }
    }

    private static void testsAreThere(String page) throws IOException {
        Set<String> made;
        try (Stream<Path> files = Files.list(TESTS)) {
            made = files.map(file -> file.getFileName().toString())
                    .filter(name -> name.endsWith("Test.java"))
                    .map(name -> name.replace(".java", ""))
                    .collect(Collectors.toCollection(TreeSet::new));
        }
        Set<String> told = firsts("(?m)^\\| (\\w+Test) \\| .+ \\|$", page);
        Due.isTrue("the page's tests " + told + " are those of the project " + made, told.equals(made));
    }

    private static void commandsAreThere(String page) {
        Due.isTrue(".ci/run can be run", Files.isExecutable(Path.of(".ci/run")));
        Due.isTrue("the page names .ci/run", page.contains("\n.ci/run\n"));
        for (MatchResult file : all("\\b(src/[\\w/]+\\.java)\\b", page)) {
            Due.isTrue(file.group(1) + " is there", Files.isRegularFile(Path.of(file.group(1))));
        }
    }
}
