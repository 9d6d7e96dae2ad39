import java.io.IOException;
import java.nio.file.Files;
import java.nio.file.Path;
import java.util.ArrayList;
import java.util.List;
import java.util.regex.Matcher;
import java.util.regex.Pattern;
import java.util.stream.Stream;

/** Each sentence of the terms and each line of a promise is named by a test that is of it. */
public final class CoverageTest {
    private static final Path TESTS = Path.of("src", "test", "java");
    private static final Pattern SAYS =
            Pattern.compile("Document\\.says\\((\\d+|Document\\.TERMS|TERMS),\\s*(\"[^\"]*\"(?:\\s*\\+\\s*\"[^\"]*\")*)");

    public static void main(String[] args) throws IOException {
        List<List<String>> said = new ArrayList<>();
        for (int part = 0; part <= Document.PROMISES; part++) {
            said.add(new ArrayList<>());
        }
        List<Path> files;
        try (Stream<Path> all = Files.list(TESTS)) {
            files = all.filter(file -> file.toString().endsWith("Test.java")).toList();
        }
        for (Path file : files) {
            Matcher found = SAYS.matcher(Files.readString(file));
            while (found.find()) {
                int part = found.group(1).endsWith("TERMS") ? Document.TERMS : Integer.parseInt(found.group(1));
                String words = found.group(2).replaceAll("\"\\s*\\+\\s*\"", "");
                said.get(part).add(words.substring(1, words.length() - 1));
            }
        }
        for (int part = 0; part <= Document.PROMISES; part++) {
            for (String sentence : Document.sentences(part)) {
                boolean named = said.get(part).stream().anyMatch(words -> named(sentence, words));
                Due.is("part " + part + ", a test of: " + sentence, named || saysNothing(sentence), true);
            }
        }
        Due.end();
    }

    /** What the document is about, and the bare names of arguments, as "machine: the machine". */
    private static boolean saysNothing(String sentence) {
        return sentence.startsWith("A hall in which ") || sentence.matches("(\\w+): the \\1");
    }

    private static boolean named(String sentence, String words) {
        return sentence.contains(words) || words.contains(sentence);
    }
}
