import java.io.IOException;
import java.nio.file.Files;
import java.nio.file.Path;
import java.util.ArrayList;
import java.util.LinkedHashMap;
import java.util.List;
import java.util.Map;

/**
 * The document, by its sections. A test names the sentence, or the part of one, that it is for; a sentence that the
 * document does not have at that place is a failure, and so is a clause of the document that no test has named.
 */
final class Document {
    private final Check check;
    private final Map<String, List<String>> clauses = new LinkedHashMap<>();
    private final Map<String, String> texts = new LinkedHashMap<>();
    private final Map<String, List<Sentence>> named = new LinkedHashMap<>();

    Document(Check check, Path path) throws IOException {
        this.check = check;
        for (String part : Files.readString(path).split("\n## ")) {
            String title = part.substring(0, Math.max(part.indexOf('\n'), 0));
            readSection(title, part.substring(title.length()).split("\n\\s*\n"));
        }
    }

    /** A sentence of the section of a promise. */
    Sentence promise(int number, String sentence) {
        return named("Promise " + number, sentence);
    }

    /** A sentence of the section "Terms", under a word that stands ahead of it there. */
    Sentence term(String word, String sentence) {
        return named("Terms, " + word, sentence);
    }

    /** A sentence of the section "What it is". */
    Sentence start(String sentence) {
        return named("What it is", sentence);
    }

    void checkThatAllIsNamed() {
        check.same("the document has 31 promises", count("Promise "), 31);
        check.same("the document has all its terms", count("Terms, "), 8);
        for (Map.Entry<String, List<String>> section : clauses.entrySet()) {
            for (String clause : section.getValue()) {
                boolean needsTest = !section.getKey().equals("What it is");
                check.same(section.getKey() + ": a test for '" + clause + "'",
                        !needsTest || isNamed(section.getKey(), clause), true);
            }
        }
    }

    private int count(String beginning) {
        int count = 0;
        for (String section : clauses.keySet()) {
            count += section.startsWith(beginning) ? 1 : 0;
        }
        return count;
    }

    /** A sentence that is a whole clause stands for that one alone; another one may be a part of a clause, or several. */
    private boolean isNamed(String section, String clause) {
        for (Sentence sentence : named.getOrDefault(section, List.of())) {
            String text = sentence.text();
            boolean isWhole = clauses.get(section).contains(text);
            boolean meant = isWhole ? text.equals(clause) : text.contains(clause) || clause.contains(text);
            if (meant && sentence.checks() > 0) {
                return true;
            }
        }
        return false;
    }

    private Sentence named(String section, String text) {
        Sentence sentence = new Sentence(check, section, text);
        check.same(section + " '" + text + "' stands in the document", texts.getOrDefault(section, "").contains(text), true);
        named.computeIfAbsent(section, none -> new ArrayList<>()).add(sentence);
        return sentence;
    }

    private void readSection(String title, String[] paragraphs) {
        String word = "";
        for (String paragraph : paragraphs) {
            String text = paragraph.replace("`", "").replaceAll("\\s+", " ").trim();
            if (title.equals("Terms") && text.matches("[A-Z][a-z]+\\. .*")) {
                word = text.substring(0, text.indexOf('.'));
                text = text.substring(word.length() + 2);
            }
            if (title.equals("What it is")) {
                keep(title, text);
            } else if (title.equals("Terms") && !word.isEmpty() && !text.startsWith("Ahead of the calls ")) {
                keep("Terms, " + word, text);
            } else if (title.startsWith("Promise ") && !text.startsWith("- ")) {
                boolean beginsWithFace = paragraph.trim().startsWith("`");
                keep(title.substring(0, title.indexOf(':')), beginsWithFace ? text.substring(text.indexOf(": ") + 2) : text);
            }
        }
    }

    private void keep(String section, String text) {
        if (text.isEmpty()) {
            return;
        }
        texts.merge(section, text, (before, more) -> before + " " + more);
        List<String> kept = clauses.computeIfAbsent(section, none -> new ArrayList<>());
        for (String clause : text.split("[.:;](\\s+|$)")) {
            kept.add(clause);
        }
    }
}
