import java.io.IOException;
import java.nio.charset.StandardCharsets;
import java.nio.file.Files;
import java.nio.file.Path;
import java.util.ArrayList;
import java.util.List;

/** The Java of README.md, line by line, and what its comments say of the answers; run in the project's folder. */
public final class ReadmeTest {
    public static void main(String[] args) throws IOException {
        useAsTold();
        List<String> here = Files.readAllLines(Path.of("src/test/java/ReadmeTest.java"), StandardCharsets.UTF_8);
        List<String> told = javaOf(Files.readAllLines(Path.of("README.md"), StandardCharsets.UTF_8));
        Check.due("README.md tells Java", true, () -> told.size() > 20);
        for (String line : told) {
            Check.due("the line of README.md is tried: " + line, true, () -> here.stream().anyMatch(own -> own.endsWith(line)));
        }
        Check.end();
    }

    private static void useAsTold() {
        QuestLedger ledger = new QuestLedger();
        String text = "ledger; stock 0 3; quest 1 5; step 30 2 uses 0 2; step 10 1 after 0; goal 1;";
        append(ledger, text);
        int quests = ledger.load(text.length());   // 1
        Check.due("quests", 1, () -> quests);
        failAsTold(ledger);
        askAsTold(ledger);
        tryAsTold(ledger);
    }

    private static void failAsTold(QuestLedger ledger) {
        String wrong = "ledger; stock 8 3;";
        append(ledger, wrong);
        int error = ledger.load(wrong.length());   // QuestLedger.OUT_OF_RANGE
        int offset = ledger.errorOffset();         // 14, where the 8 is
        Check.due("error", QuestLedger.OUT_OF_RANGE, () -> error);
        Check.due("offset", 14, () -> offset);
        Check.due("the 8", '8', () -> wrong.charAt(offset));
    }

    private static void askAsTold(QuestLedger ledger) {
        boolean possible = ledger.possible(0);     // true
        int length = ledger.planLength(0);         // 2
        int first = ledger.planStep(0, 0);         // 0
        int canBeTried = ledger.quest(0, 7);       // 1, the set of step 0 alone
        int why = ledger.why(0, 1);                // 4, step 0 must be done ahead of it
        int risk = ledger.safest(0);               // 40
        double chance = ledger.chance(0);          // 0.7 * 0.9
        Check.due("possible", true, () -> possible);
        Check.due("length", 2, () -> length);
        Check.due("first", 0, () -> first);
        Check.due("canBeTried", 1, () -> canBeTried);
        Check.due("why", 4, () -> why);
        Check.due("risk", 40, () -> risk);
        Check.due("chance", 0.7 * 0.9, () -> chance);
    }

    private static void tryAsTold(QuestLedger ledger) {
        int queue = ledger.tell(50, 5);            // 2, the draws of the next two tries
        int tried = ledger.attempt(0, 0);          // 1, it succeeds: 50 is not less than 30
        int lost = ledger.attempt(0, 1);           // 3, it fails and breaks, and the quest is lost by it
        int before = ledger.reopen(0);             // 2, it was lost, and is open now with no step done
        int lacking = ledger.lacking(0, 0);        // 1, as the first try has used up 2 of the 3
        int stock = ledger.add(0, 1);              // 2
        ledger.tell(30, 10);
        int tries = ledger.play(0);                // 2, its plan is tried, step by step
        int status = ledger.quest(0, 1);           // 1, it is done
        int reward = ledger.stock(1);              // 5
        int left = ledger.undo();                  // 7, the changes that can still be undone
        Check.due("queue", 2, () -> queue);
        Check.due("tried", 1, () -> tried);
        Check.due("lost", 3, () -> lost);
        Check.due("before", 2, () -> before);
        Check.due("lacking", 1, () -> lacking);
        Check.due("stock", 2, () -> stock);
        Check.due("tries", 2, () -> tries);
        Check.due("status", 1, () -> status);
        Check.due("reward", 5, () -> reward);
        Check.due("left", 7, () -> left);
    }

    static void append(QuestLedger ledger, String text) {
        for (int from = 0; from < text.length(); from += 20) {
            int[] words = new int[5];
            for (int k = 0; k < 20; k++) {
                int value = from + k < text.length() ? text.charAt(from + k) : ' ';
                words[k / 4] = words[k / 4] << 8 | value;
            }
            ledger.append(words[0], words[1], words[2], words[3], words[4]);
        }
    }

    private static List<String> javaOf(List<String> readme) {
        List<String> lines = new ArrayList<>();
        boolean java = false;
        for (String line : readme) {
            if (line.startsWith("```")) {
                java = line.equals("```java");
            } else if (java) {
                lines.add(line);
            }
        }
        return lines;
    }
}
