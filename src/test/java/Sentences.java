import java.io.IOException;
import java.nio.file.Files;
import java.nio.file.Path;
import java.nio.file.Paths;
import java.util.LinkedHashMap;
import java.util.Map;

/**
 * The document, section by section. A test of an edge begins with the words that name it; at the end nothing of the
 * document may be left that was neither tested nor told to name no edge, so that no sentence is passed over.
 */
final class Sentences {
    private static final Map<String, String> TEXTS = new LinkedHashMap<>();
    private static final Map<String, boolean[]> READ = new LinkedHashMap<>();
    private static String open = "";
    private static int heldBefore;

    private Sentences() {
    }

    /** Where there is no document the tests run all the same, but nobody can say that none is missing. */
    static void read(Path document) throws IOException {
        if (!Files.exists(document)) {
            System.out.println("there is no " + document + ": its sentences are not gone through");
            return;
        }
        Map<String, StringBuilder> sections = new LinkedHashMap<>();
        String section = "";
        for (String line : Files.readAllLines(document)) {
            String rest = line;
            if (line.startsWith("#")) {
                section = line.replaceFirst("#+ ", "").replaceFirst(":.*", "").toLowerCase();
                rest = "";
            } else if (line.startsWith("======== ")) {
                section = "part " + line.charAt(9);
                rest = line.substring(11);
            } else if (line.startsWith("Ahead of the calls") || line.startsWith("```")) {
                rest = "";
            }
            sections.computeIfAbsent(section, s -> new StringBuilder()).append(rest).append(' ');
        }
        sections.forEach((name, text) -> {
            boolean isSaid = name.equals("what it is") || name.equals("terms") || name.startsWith("p");
            if (isSaid) {
                TEXTS.put(name, text.toString().replace("`", "").replaceAll("\\s+", " ").trim());
                READ.put(name, new boolean[TEXTS.get(name).length()]);
            }
        });
        Check.due("sections: what it is, terms, 4 parts, 40 promises", TEXTS.size(), 46);
    }

    static Path document() {
        return Paths.get("..", "shared", "DOC.md");
    }

    /** What follows holds these words of a section. */
    static void edge(String section, String words) {
        close();
        open = section + ": " + words;
        Check.part(open);
        mark(section, words);
        heldBefore = Check.held();
    }

    /** These words name no edge. */
    static void plain(String section, String... words) {
        for (String w : words) {
            mark(section, w);
        }
    }

    private static void close() {
        if (!open.isEmpty()) {
            int before = heldBefore;
            Check.holds("there is a test of: " + open, Check.held() > before);
        }
        open = "";
    }

    private static void mark(String section, String words) {
        if (TEXTS.isEmpty()) {
            return;
        }
        String text = TEXTS.getOrDefault(section, "");
        int at = text.indexOf(words);
        Check.holds("the document says, in " + section + ": " + words, at >= 0);
        for (int i = Math.max(0, at); at >= 0 && i < at + words.length(); i++) {
            READ.get(section)[i] = true;
        }
    }

    static void allRead() {
        close();
        Check.part("all sentences are read");
        TEXTS.forEach((name, text) -> {
            StringBuilder left = new StringBuilder();
            for (int i = 0; i < text.length(); i++) {
                boolean isOpen = !READ.get(name)[i] && Character.isLetterOrDigit(text.charAt(i));
                left.append(isOpen || left.length() > 0 && !READ.get(name)[i] ? text.charAt(i) : "");
            }
            Check.due(name + " leaves: " + left, left.toString().trim().length(), 0);
        });
    }
}
