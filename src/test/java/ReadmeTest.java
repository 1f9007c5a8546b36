import java.io.IOException;
import java.lang.reflect.Method;
import java.nio.file.Files;
import java.nio.file.Path;
import java.util.Set;
import java.util.TreeSet;
import java.util.regex.Matcher;
import java.util.regex.Pattern;
import java.util.stream.Stream;

/** README.md tells what stands: its example answers so, its tables name every call and every test. */
public final class ReadmeTest {
    private static final Pattern FED = Pattern.compile("for \\(char c : \"([^\"]*)\"\\.toCharArray\\(\\)\\) x\\.feed\\(c\\);");
    private static final Pattern ANSWERED = Pattern.compile("x\\.(\\w+)\\(([^)]*)\\); +// (-?\\d+):");
    private static final Pattern CALL_ROW = Pattern.compile("\\| `(\\w+)\\(([^)]*)\\)` \\|");
    private static final Pattern TEST_ROW = Pattern.compile("\\| (\\w+Test) \\|");
    private static final Check check = new Check();

    public static void main(String[] args) throws IOException {
        check.promise("README.md");
        String page = Files.readString(Path.of("README.md"));
        example(page);
        calls(page);
        tests(page);
        check.finish("ReadmeTest");
    }

    private static void example(String page) {
        HatOrders x = new HatOrders();
        int answers = 0;
        String code = page.substring(page.indexOf("```java\n") + 8, page.indexOf("\n```\n"));
        for (String line : code.split("\n")) {
            Matcher fed = FED.matcher(line);
            Matcher answered = ANSWERED.matcher(line);
            if (fed.lookingAt()) {
                Check.feed(x, fed.group(1));
            } else if (answered.lookingAt()) {
                String told = (answered.group(1) + " " + answered.group(2).replace(",", "")).trim();
                check.due(told, Calls.make(x, told), Integer.parseInt(answered.group(3)));
                answers++;
            } else {
                check.due("a line of another form: " + line, line.equals("HatOrders x = new HatOrders();"));
            }
        }
        check.due("the example has answers", answers > 10);
    }

    private static void calls(String page) {
        Set<String> told = new TreeSet<>();
        Matcher row = CALL_ROW.matcher(page);
        while (row.find()) {
            told.add(row.group(1) + " " + (row.group(2).isEmpty() ? 0 : row.group(2).split(",").length));
        }
        Set<String> face = new TreeSet<>();
        for (Method method : Calls.all()) {
            face.add(method.getName() + " " + method.getParameterCount());
        }
        check.due("the calls are " + face + ", told are " + told, told.equals(face));
    }

    private static void tests(String page) throws IOException {
        Set<String> told = new TreeSet<>();
        Matcher row = TEST_ROW.matcher(page);
        while (row.find()) {
            told.add(row.group(1) + ".java");
        }
        Set<String> there = new TreeSet<>();
        try (Stream<Path> files = Files.list(Path.of("src/test/java"))) {
            files.map(file -> file.getFileName().toString()).filter(name -> name.endsWith("Test.java")).forEach(there::add);
        }
        check.due("the tests are " + there + ", told are " + told, told.equals(there));
    }
}
