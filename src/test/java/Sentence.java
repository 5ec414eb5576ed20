import java.io.IOException;
import java.io.UncheckedIOException;
import java.nio.charset.StandardCharsets;
import java.nio.file.Files;
import java.nio.file.Path;
import java.util.ArrayList;
import java.util.LinkedHashMap;
import java.util.List;
import java.util.Map;

/**
 * Tests of single sentences of the document. Each one quotes the sentence that it tests, and the quote is
 * looked up in ../shared/DOC.md; so it can be seen, too, which sentences no test quotes.
 */
final class Sentence {
    private static final Path DOCUMENT = Path.of("../shared/DOC.md");
    /** The sentences of each section, in their order; a section is named by what stands ahead of its colon. */
    private static final Map<String, List<String>> SECTIONS = read();
    private static final Map<String, List<String>> QUOTED = new LinkedHashMap<>();

    private Sentence() {
    }

    static void test(String section, String words, Runnable test) {
        Check.tellAbout("[" + section + ": " + words + "] ");
        if (!SECTIONS.isEmpty()) {
            Check.due("the quote", true, () -> String.join(" ", SECTIONS.getOrDefault(section, List.of())).contains(words));
        }
        QUOTED.computeIfAbsent(section, name -> new ArrayList<>()).add(words);
        int before = Check.compared();
        test.run();
        int behind = Check.compared();
        Check.due("something is compared", true, () -> behind > before);
        Check.tellAbout("");
    }

    /** Each sentence is quoted, but for those that are told here to name no boundary. */
    static void compareWithDocument(List<String> withoutBoundary) {
        for (String section : SECTIONS.keySet()) {
            for (String sentence : SECTIONS.get(section)) {
                boolean quoted = QUOTED.getOrDefault(section, List.of()).stream()
                    .anyMatch(words -> words.contains(sentence) || sentence.contains(words));
                Check.due("[" + section + ": " + sentence + "] has a test", true,
                    () -> quoted || withoutBoundary.contains(sentence));
            }
        }
    }

    private static Map<String, List<String>> read() {
        Map<String, List<String>> sections = new LinkedHashMap<>();
        List<String> sentences = new ArrayList<>();
        boolean code = false;
        for (String line : lines()) {
            if (line.startsWith("## ")) {
                sentences = new ArrayList<>();
                sections.put(line.substring(3).replaceAll(":.*", ""), sentences);
            } else if (line.startsWith("```")) {
                code = !code;
            } else if (!code || line.startsWith("  - ")) {
                addSentences(sentences, line);
            }
        }
        sections.remove("The public face");
        sections.remove("Not promised");
        return sections;
    }

    private static void addSentences(List<String> sentences, String line) {
        String told = line.replaceAll("^#.*", "").replaceAll("^`[^`]*\\(.*?\\)[^`]*`: ", "").replaceAll("^ *- ", "").trim();
        if (told.matches("`(quest|step|item)`: an? (quest|item|step of it)|")) {
            return;
        }
        sentences.addAll(List.of(told.split("(?<=[.;]) (?=\\S)")));
    }

    /** Where the document is not at hand, its tests are run all the same; only the quotes are not looked up then. */
    private static List<String> lines() {
        if (!Files.isReadable(DOCUMENT)) {
            System.out.println(DOCUMENT + " is not there: the quotes are not looked up");
            return List.of();
        }
        try {
            return Files.readAllLines(DOCUMENT, StandardCharsets.UTF_8);
        } catch (IOException e) {
            throw new UncheckedIOException(e);
        }
    }
}
