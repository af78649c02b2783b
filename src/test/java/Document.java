import java.io.IOException;
import java.nio.file.Files;
import java.nio.file.Path;
import java.util.ArrayList;
import java.util.HashSet;
import java.util.LinkedHashMap;
import java.util.List;
import java.util.Map;
import java.util.Set;

/** The document, sentence by sentence, and which of its sentences the tests of the edges have cited. */
final class Document {
    private static final Map<String, List<String>> SENTENCES = new LinkedHashMap<>();
    private static final Set<String> CITED = new HashSet<>();

    private Document() {
    }

    static void open(Path file) throws IOException {
        String section = "";
        for (String line : Files.readAllLines(file)) {
            if (line.startsWith("## ")) {
                section = line.substring(3).split(":")[0];
            }
            List<String> sentences = SENTENCES.computeIfAbsent(section, s -> new ArrayList<>());
            String text = line.trim().replaceFirst("^`.*`: ", "");
            sentences.addAll(List.of(text.split("(?<=[.]) (?=[A-Z(])")));
        }
    }

    /** Cites a sentence of the terms: the checks after it are about it. */
    static void terms(String sentence) {
        cite("Terms", sentence);
    }

    /** Cites a sentence of a promise: the checks after it are about it. */
    static void promise(int number, String sentence) {
        cite("Promise " + number, sentence);
    }

    static void cite(String section, String sentence) {
        Check.about("");
        Check.isTrue(section + " says: " + sentence, SENTENCES.getOrDefault(section, List.of()).contains(sentence));
        Check.about(section + ", \"" + sentence + "\"");
        CITED.add(section + sentence);
    }

    /** Every sentence of the terms, and every one of a promise that names a case, has a test. */
    static void everySentenceIsCited() {
        Check.about("");
        for (String section : SENTENCES.keySet()) {
            int place = 0;
            for (String sentence : SENTENCES.get(section)) {
                boolean due = section.equals("Terms") ? isTerm(sentence) : section.startsWith("Promise ") && isCase(sentence, place);
                Check.isTrue(section + " is tested: " + sentence, !due || CITED.contains(section + sentence));
                place += sentence.isEmpty() ? 0 : 1;
            }
        }
    }

    /** Headings, the overview at the top, the rules of the grammars and the notes on the interface are no terms. */
    private static boolean isTerm(String line) {
        boolean overview = line.startsWith("People wear") || line.startsWith("Each king owns");
        boolean grammar = line.contains(" = ") || line.startsWith("|") || line.startsWith("```");
        return line.split(" ").length > 2 && !overview && !grammar && !line.startsWith("Ahead of the calls");
    }

    /** After the heading and the summary of a call: what it answers and throws, and what else is said of it. */
    private static boolean isCase(String sentence, int place) {
        return place > 1 && !sentence.isEmpty() && !sentence.startsWith("- `");
    }
}
