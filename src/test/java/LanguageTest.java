import java.io.IOException;
import java.nio.charset.StandardCharsets;
import java.nio.file.Files;
import java.nio.file.Path;
import java.util.List;
import java.util.regex.Matcher;
import java.util.regex.Pattern;

/** Those rules of LANGUAGE.md that the class's source shows line by line; run where src/main/java lies. */
public final class LanguageTest {
    private static final Pattern FORBIDDEN = Pattern.compile("->|::|\\bfinally\\b|\\bsynchronized\\b|\\bassert\\b|"
            + "\\bvar\\b|\\btry\\s*\\(|\\bnative\\b|\\btransient\\b|\\bvolatile\\b|\\bObject\\b|\\bThread\\b|\\bRandom\\b|"
            + "\\bScanner\\b|\\bgetMessage\\b|\\b\\w+Exact\\b|System\\.(?!arraycopy)|\\bequals\\(Object|\\bhashCode\\b|"
            + "\\btoString\\(\\) *\\{|catch *\\( *(Exception|Throwable|RuntimeException|Error)\\b|NullPointer|ArrayIndexOut|"
            + "ClassCast|NegativeArraySize|ArrayStore");
    private static final Pattern IMPORT = Pattern.compile(
            "import java\\.util\\.(ArrayList|List|Iterator|Arrays|NoSuchElementException);");
    private static final Pattern METHOD = Pattern.compile(
            "^( {4}| {8})(?!return|new|else|throw)[A-Za-z][\\w<>\\[\\] ]* ?\\b(\\w+)\\(([^)]*)\\)[^;=]*\\{$");
    private static final Pattern CLASS = Pattern.compile("\\b(class|enum|interface|record) \\w+");

    public static void main(String[] args) throws IOException {
        Check.about = "LANGUAGE.md";
        List<String> lines = Files.readAllLines(Path.of("src/main/java/ShutPasses.java"), StandardCharsets.UTF_8);
        int classes = 0;
        int methods = 0;
        for (int i = 0; i < lines.size(); i++) {
            String code = lines.get(i).replaceAll("\"[^\"]*\"", "\"\"").replaceAll("//.*|^ */?\\*.*", "");
            Check.due((i + 1) + ": " + code + " has what is forbidden", FORBIDDEN.matcher(code).find(), false);
            Check.due((i + 1) + " has a text joined by +", code.contains("\"\" +") || code.contains("+ \"\""), false);
            if (code.startsWith("import")) {
                Check.due(code, IMPORT.matcher(code).matches(), true);
            }
            for (char sign : lines.get(i).toCharArray()) {
                Check.due((i + 1) + " has the sign " + (int) sign, sign < 32 || sign > 126, false);
            }
            classes += CLASS.matcher(code).find() ? 1 : 0;
            Matcher method = METHOD.matcher(code);
            if (method.matches()) {
                methods++;
                Check.due(method.group(2) + "'s parameters", method.group(3).split(",").length <= 7, true);
                int end = i;
                while (end < lines.size() - 1 && !lines.get(end).equals(method.group(1) + "}")) {
                    end++;
                }
                Check.due(method.group(2) + " is short", end - i <= 60, true);
            }
        }
        Check.due("classes", classes <= 12, true);
        Check.due("methods were found", methods > 100, true);
        Check.end("LanguageTest");
    }
}
