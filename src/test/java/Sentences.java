import java.io.IOException;
import java.nio.file.Files;
import java.nio.file.Path;
import java.util.Arrays;
import java.util.LinkedHashMap;
import java.util.Map;

/**
 * What the document says, section by section. Each test quotes what it is about; in the end every
 * word of the terms and the promises must have been quoted by one.
 */
final class Sentences {
    private final Check check;
    private final Map<String, String> texts = new LinkedHashMap<>();
    private final Map<String, boolean[]> quoted = new LinkedHashMap<>();

    Sentences(Check check) throws IOException {
        this.check = check;
        String section = "";
        for (String line : Files.readAllLines(Path.of("../shared/DOC.md"))) {
            if (line.startsWith("#")) {
                section = line.replaceAll("^#+ ", "").replaceAll(":.*", "");
            } else {
                String words = line.replaceAll("^`[^`]*`: ", "");
                texts.merge(section, words, (before, more) -> before + " " + more);
            }
        }
        texts.forEach((name, text) -> quoted.put(name, new boolean[text.length()]));
    }

    void promise(int number, String quote) {
        about("Promise " + number, quote);
    }

    void about(String section, String quote) {
        check.about(section + ", \"" + quote + "\"");
        String text = texts.getOrDefault(section, "");
        int at = text.indexOf(quote);
        check.due("the document says so", true, at >= 0);
        if (at >= 0) {
            Arrays.fill(quoted.get(section), at, at + quote.length(), true);
        }
    }

    /** No word of the terms and the promises is without a test. */
    void noneLeft() {
        check.about("the document");
        for (String section : texts.keySet()) {
            if (section.equals("Terms") || section.startsWith("Promise")) {
                check.text(section + " beside what tests quote", "", left(section));
            }
        }
    }

    private String left(String section) {
        StringBuilder rest = new StringBuilder();
        String text = texts.get(section);
        for (int i = 0; i < text.length(); i++) {
            rest.append(quoted.get(section)[i] ? ' ' : text.charAt(i));
        }
        return rest.toString().replaceAll("[^A-Za-z0-9]+", " ").trim();
    }
}
