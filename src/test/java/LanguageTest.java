import java.io.IOException;
import java.nio.charset.StandardCharsets;
import java.nio.file.Files;
import java.nio.file.Path;
import java.util.List;
import java.util.Set;
import java.util.TreeSet;
import java.util.regex.Matcher;
import java.util.regex.Pattern;

/** The rules of LANGUAGE.md that can be seen in the text of the class; run in the project's folder. */
public final class LanguageTest {
    private static final int LONGEST_METHOD = 60;
    private static final int MOST_CLASSES = 12;
    private static final int MOST_PARAMETERS = 7;
    private static final String[] FORBIDDEN = {"->", "::", "\\b(try|catch|finally|assert|synchronized|var|hashCode|equals|toString)\\b",
        "\\b(System\\.(out|err|exit|nanoTime|currentTimeMillis)|Thread|Random|Exact)\\b", "\\w+Exact\\(", "^package ", "\"\"\\s*\\+|\\+\\s*\"\"",
        "\\bstatic\\s*\\{", "\\bprotected\\b", "\\bwhile \\(true\\)", "for \\(;;\\)", "[^\\x09\\x0a\\x20-\\x7e]"};
    private static final List<String> IMPORTS = List.of("java.util.Arrays", "java.util.NoSuchElementException");

    public static void main(String[] args) throws IOException {
        String whole = Files.readString(Path.of("src/main/java/QuestLedger.java"), StandardCharsets.UTF_8);
        String code = whole.replaceAll("(?s)/\\*.*?\\*/", "").replaceAll("//[^\n]*", "")
            .replaceAll("\"[^\"\n]*\"", "\"\"");
        for (String forbidden : FORBIDDEN) {
            Check.due("forbidden: " + forbidden, "", () -> firstOf(forbidden, code));
        }
        Check.due("imports", "[]", () -> others("import ([\\w.]+);", code, IMPORTS));
        Check.due("public members of classes inside", "", () -> firstOf("(?m)^        public ", code));
        Check.due("members without private on the outside", "", () -> firstOf("(?m)^    (?!public |private |}|/|\\*)\\w.*", code));
        Check.due("classes", true, () -> count("\\b(class|enum|interface|record) \\w+", code) <= MOST_CLASSES);
        names(code);
        methods(whole);
        Check.end();
    }

    private static String firstOf(String pattern, String code) {
        Matcher matcher = Pattern.compile(pattern).matcher(code);
        return matcher.find() ? matcher.group() : "";
    }

    private static int count(String pattern, String code) {
        Matcher matcher = Pattern.compile(pattern).matcher(code);
        int count = 0;
        while (matcher.find()) {
            count++;
        }
        return count;
    }

    private static String others(String pattern, String code, List<String> allowed) {
        Set<String> found = new TreeSet<>();
        Matcher matcher = Pattern.compile(pattern).matcher(code);
        while (matcher.find()) {
            if (!allowed.contains(matcher.group(1))) {
                found.add(matcher.group(1));
            }
        }
        return found.toString();
    }

    /** No other method bears the name of a method of the face. */
    private static void names(String code) {
        Set<String> face = new TreeSet<>();
        Matcher matcher = Pattern.compile("(?m)^    public \\w+ (\\w+)\\(").matcher(code);
        while (matcher.find()) {
            face.add(matcher.group(1));
        }
        Check.due("methods of the face", 31, face::size);
        Matcher other = Pattern.compile("(?m)^ +(?!public|return|throw|else|new)(?:[\\w\\[\\]]+ )+(\\w+)\\([^;]*\\{$").matcher(code);
        while (other.find()) {
            String name = other.group(1);
            Check.due("the name " + name, false, () -> face.contains(name));
        }
    }

    private static void methods(String whole) {
        String[] lines = whole.split("\n");
        for (int k = 0; k < lines.length; k++) {
            Matcher head = Pattern.compile("^( {4}| {8})(?! |if|for|switch|else)[\\w\\[\\] ]+\\(([^)]*)\\).*\\{$").matcher(lines[k]);
            if (head.find()) {
                int end = k;
                while (end < lines.length && !lines[end].equals(head.group(1) + "}")) {
                    end++;
                }
                int length = end - k;
                Check.due("lines of " + lines[k].trim(), true, () -> length <= LONGEST_METHOD);
                int parameters = head.group(2).split(",").length;
                Check.due("parameters of " + lines[k].trim(), true, () -> parameters <= MOST_PARAMETERS);
            }
        }
    }
}
