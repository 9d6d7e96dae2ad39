import java.io.IOException;
import java.nio.file.Files;
import java.nio.file.Path;
import java.util.ArrayList;
import java.util.List;

/** The document's own words, so that a test can name the sentence that it is of. */
final class Document {
    /** The part of the document that stands ahead of its promises: what it is, and the terms. */
    static final int TERMS = 0;
    static final int PROMISES = 44;
    private static final Path FILE = Path.of("..", "shared", "DOC.md");
    private static final String[] texts = texts();

    private Document() {
    }

    /** Says which words a test is of; they must stand in the document. */
    static void says(int part, String words) {
        Due.is("the document's part " + part + " says: " + words, texts[part].contains(words), true);
    }

    /** The words of a part that want a test: of the terms each sentence, of a promise each of its lines. */
    static List<String> sentences(int part) {
        List<String> all = new ArrayList<>();
        if (part == TERMS) {
            for (String each : texts[part].split("(?<=\\.) ")) {
                all.add(each.trim());
            }
            return all;
        }
        for (String paragraph : raw(part).split("\n\n|\n(?=- )")) {
            String text = plain(paragraph.replaceFirst("(?s)^`[^`]*\\([^`]*\\)[^`]*`:", ""));
            if (!text.isEmpty()) {
                all.add(text);
            }
        }
        return all;
    }

    private static String[] texts() {
        String[] all = new String[PROMISES + 1];
        for (int part = 0; part <= PROMISES; part++) {
            all[part] = plain(raw(part));
        }
        return all;
    }

    private static String raw(int part) {
        String whole = read();
        if (part == TERMS) {
            String face = between(whole, "## The public face", "## Terms");
            return between(whole, "## What it is", "## Promise 1:").replace(face, "").replaceAll("<h2>.*</h2>", "")
                    .replace("## The public face", "").replace("## Terms", "");
        }
        String title = between(whole, "## Promise " + part + ":", "\n");
        String end = part == PROMISES ? "## Not promised" : "## Promise " + (part + 1) + ":";
        return between(whole, "## Promise " + part + ":" + title, end);
    }

    private static String between(String text, String start, String end) {
        int from = text.indexOf(start) + start.length();
        return text.substring(from, text.indexOf(end, from));
    }

    private static String plain(String text) {
        return text.replaceAll("(?m)^- ", "").replace("`", "").replaceAll("\\s+", " ").trim();
    }

    private static String read() {
        try {
            return Files.readString(FILE);
        } catch (IOException e) {
            throw new IllegalStateException("no document at " + FILE, e);
        }
    }
}
