import java.io.IOException;
import java.nio.file.Files;
import java.nio.file.Path;
import java.util.ArrayList;
import java.util.LinkedHashMap;
import java.util.List;
import java.util.Map;

/** ../shared/DOC.md, cut into its sections and sentences, with every run of white space as one space. */
final class Document {
    private static final Path FILE = Path.of("..", "shared", "DOC.md");

    private final Map<String, List<String>> lines = new LinkedHashMap<>();

    Document() {
        String section = "";
        boolean code = false;
        for (String line : read()) {
            code ^= line.startsWith("```");
            if (line.startsWith("## ")) {
                section = name(line);
                lines.put(section, new ArrayList<>());
            } else if (!code && !line.isBlank() && lines.containsKey(section)) {
                lines.get(section).add(line.replaceAll("\\s+", " ").trim().replaceFirst("^- ", ""));
            }
        }
    }

    private static List<String> read() {
        try {
            return Files.readAllLines(FILE);
        } catch (IOException e) {
            throw new IllegalStateException("the document is not at " + FILE, e);
        }
    }

    /** A promise goes by its number alone: "Promise 2". */
    private static String name(String heading) {
        String name = heading.substring(3).trim();
        return name.startsWith("Promise ") ? name.replaceFirst(":.*", "") : name;
    }

    Iterable<String> sections() {
        return lines.keySet();
    }

    boolean says(String section, String quote) {
        return lines.containsKey(section) && lines.get(section).stream().anyMatch(line -> line.contains(quote));
    }

    List<String> sentences(String section) {
        List<String> sentences = new ArrayList<>();
        for (String line : lines.get(section)) {
            sentences.addAll(List.of(line.split("(?<=\\.) (?=[A-Z])")));
        }
        return sentences;
    }
}
