import java.io.IOException;
import java.io.UncheckedIOException;
import java.nio.charset.StandardCharsets;
import java.nio.file.Files;
import java.nio.file.Path;
import java.util.ArrayList;
import java.util.List;

/** The document's words, without its marks and line breaks: tests name the sentences they hold. */
final class Document {
    private final String[] sections;

    Document(Path file) {
        try {
            sections = Files.readString(file, StandardCharsets.UTF_8).split("(?m)^## ");
        } catch (IOException e) {
            throw new UncheckedIOException(e);
        }
    }

    private static String plain(String marked) {
        return marked.replaceAll("(?m)^```.*$", "").replaceAll("(?m)^- ", "").replace("`", "")
            .replaceAll("\\s+", " ").trim();
    }

    private String section(String begin) {
        for (String section : sections) {
            if (section.startsWith(begin)) {
                return section;
            }
        }
        throw new AssertionError("the document has no section " + begin);
    }

    /** Whether the sentence stands in the promise, or in what all promises rest on. */
    boolean says(int promise, String sentence) {
        String[] begins = {"Promise " + promise + ":", "Terms", "What it is", "The public face"};
        for (String begin : begins) {
            if (plain(section(begin)).contains(sentence)) {
                return true;
            }
        }
        return false;
    }

    /** The lines of a promise that tell an argument's range or a refusal. */
    List<String> limits(int promise) {
        List<String> limits = new ArrayList<>();
        for (String line : section("Promise " + promise + ":").split("\n")) {
            boolean isFree = line.startsWith("- `is`");
            if ((line.startsWith("- ") || line.startsWith("Throws ")) && !isFree) {
                limits.add(plain(line));
            }
        }
        return limits;
    }
}
