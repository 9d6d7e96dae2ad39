import java.io.IOException;
import java.nio.file.Files;
import java.nio.file.Path;
import java.util.List;
import java.util.regex.Matcher;
import java.util.regex.Pattern;

/** LANGUAGE.md as far as a search of the source can tell. */
public final class LanguageTest {
    private static final Path SOURCE = Path.of("src", "main", "java", "Beaverhall.java");
    private static final int LONGEST_METHOD = 60;

    public static void main(String[] args) throws IOException {
        List<String> lines = Files.readAllLines(SOURCE);
        StringBuilder code = new StringBuilder();
        for (String line : lines) {
            code.append(line.replaceAll("//.*", "")).append('\n');
        }
        String bare = code.toString().replaceAll("(?s)/\\*.*?\\*/", "");
        forbidden(bare);
        library(bare);
        methodLengths(bare);
        Due.end();
    }

    private static void forbidden(String bare) {
        String[] words = {"->", "::", "\\bcatch\\b", "\\btry\\b", "\\bfinally\\b", "\\bsynchronized\\b", "\\bassert\\b",
            "\\bprotected\\b", "\\bpackage\\b", "\\binstanceof\\b", "\\bObject\\b", "\\bThread\\b", "\\bRandom\\b",
            "nanoTime", "currentTime", "\\w+Exact\\b", "static \\{", "\\bvar\\b", "\\bequals\\b", "\\bhashCode\\b",
            "\\btoString\\b", "[^\\x00-\\x7f]"};
        for (String word : words) {
            Matcher found = Pattern.compile(word).matcher(bare);
            Due.is("the source has " + word, found.find(), false);
        }
    }

    private static void library(String bare) {
        Matcher imports = Pattern.compile("import ([^;]*);").matcher(bare);
        while (imports.find()) {
            boolean known = imports.group(1).matches("java\\.util\\.(Arrays|NoSuchElementException)");
            Due.is("import of " + imports.group(1), known, true);
        }
        Matcher calls = Pattern.compile("\\b(Math|Arrays|System|Long|Integer)\\.(\\w+)").matcher(bare);
        List<String> known = List.of("Math.min", "Math.max", "Math.abs", "Arrays.fill", "System.arraycopy",
                "Long.bitCount");
        while (calls.find()) {
            Due.is("call of " + calls.group(), known.contains(calls.group()), true);
        }
        Matcher thrown = Pattern.compile("throw ([^;]*);").matcher(bare);
        while (thrown.find()) {
            boolean plain = thrown.group(1).matches("new (IllegalArgument|IllegalState|IndexOutOfBounds|Arithmetic"
                    + "|UnsupportedOperation|NoSuchElement)Exception\\(\\)");
            Due.is("throw " + thrown.group(1), plain, true);
        }
    }

    private static void methodLengths(String bare) {
        int start = -1;
        String[] lines = bare.split("\n");
        for (int i = 0; i < lines.length; i++) {
            if (lines[i].matches("    (    )?[a-z].*\\(.*\\).*\\{")) {
                start = i;
            }
            if (start >= 0 && lines[i].matches("    (    )?\\}")) {
                Due.is("lines of " + lines[start].trim(), i - start <= LONGEST_METHOD, true);
                start = -1;
            }
        }
    }
}
