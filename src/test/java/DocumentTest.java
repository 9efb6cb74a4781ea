import java.io.IOException;
import java.lang.reflect.Method;
import java.nio.file.Files;
import java.nio.file.Path;
import java.util.ArrayList;
import java.util.LinkedHashMap;
import java.util.List;
import java.util.Map;

/** Every word of the document from its first line to "Not promised", but for the face, has a case that holds it. */
public final class DocumentTest {
    private static final Path DOCUMENT = Path.of("..", "shared", "DOC.md");
    private static final List<Class<?>> TESTS =
        List.of(SentencesOfTermsTest.class, SentencesOfSplitsTest.class, SentencesOfFoundTest.class);
    /** FaceTest holds the face; what is not promised is free. */
    private static final List<String> WITHOUT_CASES = List.of("SplitDesk", "The public face", "Not promised");

    public static void main(String[] args) throws IOException {
        if (!Files.exists(DOCUMENT)) {
            System.out.println(DOCUMENT + " is not there, so no words could be looked for");
            return;
        }
        Map<String, String> sections = sections(Files.readAllLines(DOCUMENT));
        Check.same("sections of the document: " + sections.keySet() + ", their number", sections.size(), 19);
        for (Map.Entry<String, String> section : sections.entrySet()) {
            if (!WITHOUT_CASES.contains(section.getKey())) {
                Check.same(section.getKey() + ": words that no case holds", wordsWithoutCase(section), "");
            }
        }
        Check.end();
    }

    /** The text behind each heading, without the signature that a promise begins with, on one line. */
    private static Map<String, String> sections(List<String> lines) {
        Map<String, String> sections = new LinkedHashMap<>();
        String heading = "";
        for (String line : lines) {
            if (line.startsWith("#")) {
                heading = line.replaceFirst("#+ ", "");
                sections.put(heading, "");
            } else {
                sections.merge(heading, line.replaceFirst("^`[^`]*`: ", "").trim() + " ", String::concat);
            }
        }
        return sections;
    }

    private static List<Sentence> sentencesOf(String heading) {
        List<Sentence> sentences = new ArrayList<>();
        for (Class<?> test : TESTS) {
            for (Method method : Sentences.casesOf(test).values()) {
                Sentence sentence = method.getAnnotation(Sentence.class);
                if (heading.equals(sentence.in()) || heading.startsWith(sentence.in() + ":")) {
                    sentences.add(sentence);
                }
            }
        }
        return sentences;
    }

    private static String wordsWithoutCase(Map.Entry<String, String> section) {
        StringBuilder left = new StringBuilder(section.getValue());
        for (Sentence sentence : sentencesOf(section.getKey())) {
            for (String words : sentence.says()) {
                int begin = section.getValue().indexOf(words);
                Check.same(section.getKey() + " says: " + words, begin >= 0, true);
                for (int i = begin; i >= 0 && i < begin + words.length(); i++) {
                    left.setCharAt(i, ' ');
                }
            }
        }
        return left.toString().trim();
    }
}
