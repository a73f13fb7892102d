import java.io.IOException;
import java.nio.file.Files;
import java.nio.file.Path;
import java.util.Arrays;
import java.util.List;
import java.util.Set;
import java.util.TreeSet;
import java.util.regex.Matcher;
import java.util.regex.Pattern;
import java.util.stream.Collectors;
import java.util.stream.Stream;

/** README.md: its examples answer as they say, its calls are told in the document's words, its command is CI's. */
public final class ReadmeTest {
    private static final Path DOCUMENT = Path.of("../shared/DOC.md");
    private static final Pattern CALL = Pattern.compile("x\\.(\\w+)\\(([^)]*)\\);\\s*// (throws NoSuchElementException|[-\\w]+)(: .*)?");
    private static final Pattern TOLD = Pattern.compile("tell\\(x, \"([^\"]*)\"\\);");
    private static final Pattern PROMISE = Pattern.compile("## Promise (\\d+): [^\n]*\n\n`([^`]*)`: ([^\n]*)\n");

    private final Due due = new Due("ReadmeTest");
    private final Set<String> used = new TreeSet<>();
    private final String page;
    private Caller c = new Caller();

    private ReadmeTest() throws IOException {
        page = Files.readString(Path.of("README.md"));
    }

    public static void main(String[] args) throws IOException {
        new ReadmeTest().run();
    }

    private void run() throws IOException {
        for (String block : blocks("java")) {
            if (block.startsWith("static void tell")) {
                helper(block);
            } else {
                block.lines().forEach(this::example);
            }
        }
        due.holds("an example for each call, not only for " + used, used.equals(publicNames()));
        calls();
        command();
        tests();
        due.finish();
    }

    private List<String> blocks(String language) {
        return Pattern.compile("(?s)```" + language + "\n(.*?)```").matcher(page).results().map(m -> m.group(1))
            .collect(Collectors.toList());
    }

    private static Set<String> publicNames() {
        return Arrays.stream(ChanceRings.class.getDeclaredMethods())
            .filter(m -> java.lang.reflect.Modifier.isPublic(m.getModifiers())).map(m -> m.getName())
            .collect(Collectors.toCollection(TreeSet::new));
    }

    /** What the page gives to users is what the tests use themselves. */
    private void helper(String block) throws IOException {
        String tests = even(Files.readString(Path.of("src/test/java/Caller.java")));
        due.holds("the tests tell games by the page's own helper", tests.contains(even(block)));
    }

    private static String even(String text) {
        return text.replaceAll("\\s+", " ").trim();
    }

    private void example(String line) {
        Matcher call = CALL.matcher(line);
        Matcher told = TOLD.matcher(line);
        if (call.matches()) {
            used.add(call.group(1));
            due.is(line, c.call(call.group(1), numbers(call.group(2))), answer(call.group(3)));
        } else if (told.matches()) {
            Caller.tell(c.x, told.group(1));
        } else {
            due.holds("an example's line: " + line, line.equals("ChanceRings x = new ChanceRings();"));
            c = new Caller();
        }
    }

    private static int[] numbers(String list) {
        return Stream.of(list.split(", ")).filter(s -> !s.isEmpty()).mapToInt(s -> Long.decode(s).intValue()).toArray();
    }

    private static long answer(String word) {
        switch (word) {
            case "throws NoSuchElementException": return Oracle.THROWS;
            case "NONE": return ChanceRings.NONE;
            case "true": return 1;
            case "false": return 0;
            default: return Long.parseLong(word);
        }
    }

    /** Each promise has its row, with the document's face and words. */
    private void calls() throws IOException {
        if (!Files.exists(DOCUMENT)) {
            System.out.println("ReadmeTest: no " + DOCUMENT + " here, so the page is not compared with it");
            return;
        }
        Matcher promise = PROMISE.matcher(Files.readString(DOCUMENT) + "\n");
        int found = 0;
        while (promise.find()) {
            found++;
            String face = promise.group(2).replace(" throws NoSuchElementException", "");
            String row = "| " + promise.group(1) + " | `" + face + "` | " + promise.group(3) + " |";
            due.holds("the page has the row " + row, page.lines().anyMatch(row::equals));
        }
        due.is("promises of the document", found, 36);
    }

    private void command() throws IOException {
        String command = blocks("sh").get(0).trim();
        due.holds(".ci/run uses " + command, Files.readAllLines(Path.of(".ci/run")).contains(command));
        due.holds(".ci/run can be executed", Files.isExecutable(Path.of(".ci/run")));
    }

    private void tests() throws IOException {
        try (Stream<Path> files = Files.list(Path.of("src/test/java"))) {
            Set<String> there = files.map(f -> f.getFileName().toString()).filter(f -> f.endsWith("Test.java"))
                .map(f -> f.replace(".java", "")).collect(Collectors.toCollection(TreeSet::new));
            Set<String> told = Pattern.compile("(?m)^\\| `(\\w+Test)` \\|").matcher(page).results().map(m -> m.group(1))
                .collect(Collectors.toCollection(TreeSet::new));
            due.holds("the page tells of the tests " + there + ", not " + told, there.equals(told));
        }
    }
}
