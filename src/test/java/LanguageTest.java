import java.io.IOException;
import java.nio.charset.StandardCharsets;
import java.nio.file.Files;
import java.nio.file.Path;
import java.util.regex.Matcher;
import java.util.regex.Pattern;

/** Those rules of LANGUAGE.md that can be seen in the text of the class. */
public final class LanguageTest {
    private static final String[] NOT_THERE = {
        "package", "catch", "try", "finally", "throw", "throws", "synchronized", "assert", "volatile",
        "native", "hashCode", "toString", "System", "Thread", "Object", "Random", "double", "float",
        "stream", "protected"};

    private static final Due due = new Due("LanguageTest");

    public static void main(String[] args) throws IOException {
        Path file = Path.of("src/main/java/ClueLogic.java");
        String source = Files.readString(file, StandardCharsets.ISO_8859_1);
        String code = bare(source);
        for (char c : source.toCharArray()) {
            if (c > 126 || c < 32 && c != '\n') {
                due.holds("a plain character instead of " + (int) c, false);
            }
        }
        for (String word : NOT_THERE) {
            due.is("how often there is " + word, count(code, "\\b" + word + "\\b"), 0);
        }
        due.is("lambdas and method references", count(code, "->|::"), 0);
        due.is("functions that end in Exact", count(code, "Exact\\s*\\("), 0);
        due.is("imports", count(code, "\\bimport\\b"), count(code, "\\bimport java\\.util\\.(Arrays|ArrayList|List);"));
        due.holds("at most twelve classes", count(code, "\\b(class|interface|enum|record)\\s+[A-Z]") <= 12);
        due.is("static fields that are not final", count(code, "\\bstatic\\s+(?!final\\b|abstract\\b|class\\b)[^(]*[=;]\\s*$"), 0);
        due.is("methods of more than seven parameters", count(code, "\\w\\((\\w[\\w\\[\\]]* \\w+, ){7,}"), 0);
        shortMethods(code);
        due.end();
    }

    /** The text without comments and without what stands in quotes. */
    private static String bare(String source) {
        return source.replaceAll("(?s)/\\*.*?\\*/", "").replaceAll("//[^\n]*", "")
                .replaceAll("\"[^\"\n]*\"", "\"\"").replaceAll("'[^'\n]+'", "''");
    }

    private static int count(String text, String pattern) {
        Matcher matcher = Pattern.compile(pattern, Pattern.MULTILINE).matcher(text);
        int count = 0;
        while (matcher.find()) {
            count++;
        }
        return count;
    }

    /** A method is what stands between a line that opens it and the brace below that line's first letter. */
    private static void shortMethods(String code) {
        String[] lines = code.split("\n");
        int methods = 0;
        for (int i = 0; i < lines.length; i++) {
            if (!lines[i].matches("( {4}| {8})\\w[\\w\\[\\] ]*\\(.*\\) \\{") || lines[i].contains(" class ")) {
                continue;
            }
            String close = lines[i].substring(0, lines[i].indexOf(lines[i].trim())) + "}";
            int end = i;
            while (end < lines.length && !lines[end].equals(close)) {
                end++;
            }
            methods++;
            due.holds("the method at '" + lines[i].trim() + "' is short", end - i <= 60);
        }
        due.holds("there are methods", methods > 20);
    }
}
