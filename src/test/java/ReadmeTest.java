import java.io.ByteArrayOutputStream;
import java.io.IOException;
import java.io.PrintStream;
import java.net.URL;
import java.net.URLClassLoader;
import java.nio.file.Files;
import java.nio.file.Path;
import java.util.ArrayList;
import java.util.LinkedHashMap;
import java.util.List;
import java.util.Map;
import java.util.regex.Matcher;
import java.util.regex.Pattern;
import java.util.stream.Stream;
import javax.tools.ToolProvider;

/** What README.md says is so: its example prints what it says, and its calls and refusals are the document's. */
final class ReadmeTest {
    private static final Path README = Path.of("README.md");
    private static final Path DOCUMENT = Path.of("../shared/DOC.md");
    private static final Path SOURCE = Path.of("src/main/java/LoosePlug.java");
    private static final Pattern REFUSAL = Pattern.compile("\\b(?:BAD|FULL|NONE|STATE|NO)\\b|-1[1-5]\\b|-100\\b");

    public static void main(String[] args) throws Exception {
        String readme = Files.readString(README);
        String document = Files.readString(DOCUMENT);
        example(readme);
        calls(readme, document);
        refusals(readme);
        limits();
        neverRefused();
        names(readme);
        Check.end();
    }

    private static String block(String text, String language) {
        String fence = "```" + language + "\n";
        int from = text.indexOf(fence) + fence.length();
        return text.substring(from, text.indexOf("```", from));
    }

    // ---- the example

    private static void example(String readme) throws Exception {
        Path made = Files.createTempDirectory("readme");
        try {
            Path file = Files.writeString(made.resolve("Example.java"), block(readme, "java"));
            int answer = ToolProvider.getSystemJavaCompiler().run(null, null, null, "--release", "17", "-d", made.toString(),
                    SOURCE.toString(), file.toString());
            Check.due("the example compiles", answer, 0);
            if (answer == 0) {
                String printed = printedBy(made);
                Check.holds("the example prints what README.md says, not\n" + printed, printed.equals(block(readme, "text")));
            }
        } finally {
            clear(made);
        }
    }

    private static String printedBy(Path made) throws Exception {
        PrintStream screen = System.out;
        ByteArrayOutputStream printed = new ByteArrayOutputStream();
        // No parent that has the tests' LoosePlug: the example runs with the class it was compiled with.
        try (URLClassLoader loader = new URLClassLoader(new URL[] {made.toUri().toURL()}, ClassLoader.getPlatformClassLoader())) {
            System.setOut(new PrintStream(printed, true));
            loader.loadClass("Example").getMethod("main", String[].class).invoke(null, (Object) new String[0]);
        } finally {
            System.setOut(screen);
        }
        return printed.toString().replace(System.lineSeparator(), "\n");
    }

    private static void clear(Path made) throws IOException {
        List<Path> files;
        try (Stream<Path> inside = Files.list(made)) {
            files = inside.toList();
        }
        for (Path file : files) {
            Files.delete(file);
        }
        Files.delete(made);
    }

    // ---- the calls

    private static List<String> refusalsIn(String text) {
        List<String> all = new ArrayList<>();
        Matcher m = REFUSAL.matcher(text);
        while (m.find()) {
            all.add(m.group());
        }
        return all;
    }

    /** Each call's signature with its refusals, in the order in which they are named. */
    private static Map<String, List<String>> table(String text, String row) {
        Map<String, List<String>> all = new LinkedHashMap<>();
        Matcher m = Pattern.compile(row, Pattern.MULTILINE).matcher(text);
        while (m.find()) {
            Check.holds(m.group(1) + " is told once", all.put(m.group(1), refusalsIn(m.group(2))) == null);
        }
        return all;
    }

    private static void calls(String readme, String document) {
        Map<String, List<String>> due = table(document, "^`([^`]*\\([^`]*\\))`: (.*)$");
        Map<String, List<String>> got = table(readme, "^\\| `([^`]*\\([^`]*\\))` \\|.*\\|([^|]*)\\|$");
        Check.due("calls of the document", due.size(), 45);
        Check.holds("README.md tells the calls " + got.keySet() + ", due is " + due.keySet(),
                new ArrayList<>(got.keySet()).equals(new ArrayList<>(due.keySet())));
        for (String call : due.keySet()) {
            Check.holds(call + " is refused by " + got.get(call) + ", due is " + due.get(call), due.get(call).equals(got.get(call)));
        }
    }

    // ---- the refusals

    private static void refusals(String readme) throws Exception {
        List<Integer> numbers = new ArrayList<>();
        Matcher row = Pattern.compile("^\\| (-\\d+) \\| (?:`(\\w+)` )?\\|", Pattern.MULTILINE).matcher(readme);
        while (row.find()) {
            int number = Integer.parseInt(row.group(1));
            numbers.add(number);
            if (row.group(2) != null) {
                Check.due(row.group(2), LoosePlug.class.getField(row.group(2)).getInt(null), number);
            }
        }
        Check.holds("README.md tells the refusals " + numbers,
                numbers.equals(List.of(-1, -2, -3, -4, -11, -12, -13, -14, -15, Integer.MIN_VALUE)));
        Check.holds("README.md tells that there is a fault's place", readme.contains("| -100 less a place |"));
    }

    /** "There is no room": each limit that README.md tells, and that one less is no refusal. */
    private static void limits() {
        LoosePlug x = Check.onDay(998);
        Check.due("day 999", x.later(1), 999);
        Check.due("day 1000", x.later(1), LoosePlug.FULL);
        for (int i = 0; i <= 10; i++) {
            Check.due("part " + i, x.part(0, 1, 1, 1, 1), i < 10 ? i : LoosePlug.FULL);
        }
        for (int i = 0; i <= 40; i++) {
            Check.due("run " + i, x.run(0), i < 40 ? i : LoosePlug.FULL);
        }
        for (int i = 0; i <= 8; i++) {
            Check.due("story " + i, Check.story(x, "nothing", 1), i < 8 ? i : LoosePlug.FULL);
        }
        LoosePlug y = new LoosePlug();
        for (int i = 0; i <= 8; i++) {
            Check.due("house " + i, Check.house(y, "1=1"), i < 8 ? i : LoosePlug.FULL);
        }
        Check.due("a full house leaves the tape", y.many(5), 3);
        for (int bytes = 4; bytes <= 201; bytes++) {
            Check.due("byte " + bytes, y.feed(32, 1), bytes <= 200 ? bytes : LoosePlug.FULL);
        }
    }

    private static void neverRefused() {
        int[] wild = {Integer.MIN_VALUE, -1, 0, 1, Integer.MAX_VALUE};
        LoosePlug x = new LoosePlug();
        for (int v : wild) {
            Check.due("lots " + v, x.lots(v), 1);
            Check.due("sign", x.sign(), 0);
            Check.due("keep", x.keep(), 1);
        }
    }

    // ---- the names

    private static void names(String readme) {
        Check.holds("README.md tells how many calls an object serves", readme.contains("An object serves 512 calls"));
        Check.holds("README.md tells how the tests are run", readme.contains("\n    .ci/run\n") && Files.isExecutable(Path.of(".ci/run")));
        Matcher test = Pattern.compile("`(\\w+(?:Test|Plug))`").matcher(readme);
        int named = 0;
        while (test.find()) {
            named++;
            Check.holds(test.group(1) + " is there", Files.exists(Path.of("src/test/java", test.group(1) + ".java")));
        }
        Check.holds("README.md names tests", named > 0);
        Matcher path = Pattern.compile("`((?:src|\\.\\.)/[\\w./]+)`").matcher(readme);
        while (path.find()) {
            Check.holds(path.group(1) + " is there", Files.exists(Path.of(path.group(1))));
        }
    }
}
