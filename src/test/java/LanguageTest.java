import java.io.IOException;
import java.nio.file.Files;
import java.nio.file.Path;
import java.util.regex.Matcher;
import java.util.regex.Pattern;

/** Rules of LANGUAGE.md that the text of the program tells; it is run from the project's folder. */
public final class LanguageTest {
    private static final String PROGRAM = "src/main/java/HatOrders.java";
    private static final int LONGEST_METHOD = 60;
    private static final String[] WORDS = {"throw", "throws", "try", "catch", "synchronized", "assert", "package",
        "native", "volatile", "transient", "Object", "equals", "hashCode", "toString", "Random", "Thread"};
    private static final String[] SIGNS = {"->", "::", "Exact(", "static {", "@"};
    private static final String[] LIBRARY = {"System.arraycopy", "Arrays.fill", "Arrays.copyOf", "Arrays.copyOfRange",
        "Math.", "Integer.", "Long."};
    private static final Check check = new Check();

    public static void main(String[] args) throws IOException {
        check.promise("LANGUAGE.md");
        String text = Files.readString(Path.of(PROGRAM));
        boolean isPlain = true;
        for (int i = 0; i < text.length(); i++) {
            isPlain &= text.charAt(i) < 128 && text.charAt(i) != '\t';
        }
        check.due("rule 4: signs are plain", isPlain);
        String code = withoutCommentsAndTexts(text);
        for (String word : WORDS) {
            check.due("no word " + word, !Pattern.compile("\\b" + word + "\\b").matcher(code).find());
        }
        for (String sign : SIGNS) {
            check.due("no sign " + sign, !code.contains(sign));
        }
        imports(code);
        library(code);
        methods(code);
        check.finish("LanguageTest");
    }

    private static String withoutCommentsAndTexts(String text) {
        String code = Pattern.compile("/\\*.*?\\*/", Pattern.DOTALL).matcher(text).replaceAll("");
        code = code.replaceAll("//[^\\n]*", "");
        code = code.replaceAll("\"[^\"\\n]*\"", "\"\"");
        return code.replaceAll("'[^'\\n]'", "'x'");
    }

    private static void imports(String code) {
        Matcher matcher = Pattern.compile("import ([^;]+);").matcher(code);
        while (matcher.find()) {
            check.due("rule 4: import " + matcher.group(1), matcher.group(1).matches("java\\.util\\.(Arrays|ArrayList|List)"));
        }
    }

    private static void library(String code) {
        Matcher matcher = Pattern.compile("\\b(System|Arrays|Math|Integer|Long)\\.\\w+").matcher(code);
        while (matcher.find()) {
            boolean isListed = false;
            for (String name : LIBRARY) {
                isListed |= name.endsWith(".") ? matcher.group().startsWith(name) : matcher.group().equals(name);
            }
            check.due("rule 4: " + matcher.group(), isListed);
        }
    }

    /** A method's lines, from its first to the brace that ends it. */
    private static void methods(String code) {
        Matcher matcher = Pattern.compile("\\n( +)(?! )(?:[\\w\\[\\]]+ )*(\\w+)\\(([^)]*)\\) \\{\\n").matcher(code);
        int found = 0;
        while (matcher.find()) {
            found++;
            int end = code.indexOf("\n" + matcher.group(1) + "}\n", matcher.start());
            long lines = code.substring(matcher.start() + 1, end).lines().count() + 1;
            check.due("rule 11: " + matcher.group(2) + " is short", lines <= LONGEST_METHOD);
            check.due("rule 11: " + matcher.group(2) + " takes few", matcher.group(3).split(",").length <= 7);
        }
        check.due("methods are found", found > 80);
    }
}
