import java.io.IOException;
import java.nio.file.Files;
import java.nio.file.Path;
import java.util.ArrayList;
import java.util.LinkedHashMap;
import java.util.List;
import java.util.Map;

/**
 * The sentences of the document. A test names each sentence that it holds the program to, and at its
 * end no sentence of the parts that it has opened may be without a name.
 */
final class Sentences {
    private static final Path DOCUMENT = Path.of("..", "shared", "DOC.md");
    private static final Map<String, List<String>> UNNAMED = new LinkedHashMap<>();
    private static final Map<String, List<String>> ALL = read();
    private static String part = "";

    private Sentences() {
    }

    /** Opens these promises, so that none of them can be forgotten. */
    static void promises(int first, int last) {
        for (int number = first; number <= last; number++) {
            promise(number);
        }
    }

    /** The names of all parts of the document. */
    static String parts() {
        return String.join(", ", ALL.keySet());
    }

    static void promise(int number) {
        open("Promise " + number);
    }

    static void open(String name) {
        part = name;
        List<String> all = ALL.get(name);
        if (all == null || all.isEmpty()) {
            Check.report("the document", "no part " + name, "one with sentences");
        } else {
            UNNAMED.putIfAbsent(name, new ArrayList<>(all));
        }
    }

    /** The checks that follow would fail if the sentence with this quote were broken. */
    static void test(String quote) {
        Check.under(part, quote);
        free(quote);
    }

    /** The sentence with this quote asks for nothing that a call could show. */
    static void free(String quote) {
        List<String> all = ALL.get(part);
        if (all == null || all.stream().noneMatch(sentence -> sentence.contains(quote))) {
            Check.report("the quote", quote, "a part of a sentence of " + part);
        } else {
            UNNAMED.get(part).removeIf(sentence -> sentence.contains(quote));
        }
    }

    static void end(String test) {
        UNNAMED.forEach((name, left) -> {
            Check.under(name, "");
            left.forEach(sentence -> Check.report(sentence, "without a test", "one that names it"));
        });
        Check.end(test);
    }

    private static Map<String, List<String>> read() {
        Map<String, List<String>> parts = new LinkedHashMap<>();
        try {
            List<String> sentences = new ArrayList<>();
            StringBuilder paragraph = new StringBuilder();
            for (String line : Files.readAllLines(DOCUMENT)) {
                // The terms have headings of their own, in great letters.
                boolean isHeading = line.startsWith("#") || line.matches("[A-Z ]{4,}");
                if (isHeading || line.isBlank() || line.startsWith("- ")) {
                    addSentences(paragraph.toString(), sentences);
                    paragraph.setLength(0);
                }
                if (isHeading) {
                    sentences = new ArrayList<>();
                    parts.put(line.replaceAll("^#+ ", "").replaceAll(":.*", ""), sentences);
                } else {
                    paragraph.append(line).append(' ');
                }
            }
            addSentences(paragraph.toString(), sentences);
        } catch (IOException cannotRead) {
            Check.report("the document", cannotRead.toString(), "a text at " + DOCUMENT);
        }
        return parts;
    }

    private static void addSentences(String paragraph, List<String> sentences) {
        String text = paragraph.trim().replaceAll("\\s+", " ");
        // A paragraph of a promise begins with the head of the method, an argument with a dash.
        text = text.startsWith("`") ? text.substring(text.indexOf("`: ") + 3) : text.replaceAll("^- ", "");
        for (String sentence : text.split("(?<=(\\S\\S|\\s\\d)\\.) ")) {
            if (!sentence.isEmpty() && !sentence.matches("\\d\\. \\w+\\.")) {
                sentences.add(sentence);
            }
        }
    }
}
