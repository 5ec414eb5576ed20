import java.util.function.Function;

/** Short ways to setup texts and to what comes of them. */
final class Setup {
    static final int[] OFF_THE_EDGE = {Integer.MIN_VALUE, Integer.MAX_VALUE};

    private Setup() {
    }

    /** Each step is told by what stands behind its word. */
    static String quest(String goal, String... steps) {
        return rewarded(0, 0, goal, steps);
    }

    static String rewarded(int item, int amount, String goal, String... steps) {
        StringBuilder text = new StringBuilder("quest " + item + " " + amount + ";");
        for (String step : steps) {
            text.append("step ").append(step).append(";");
        }
        return text + "goal " + goal + ";";
    }

    static String[] times(int count, String step) {
        String[] steps = new String[count];
        for (int k = 0; k < count; k++) {
            steps[k] = step;
        }
        return steps;
    }

    static QuestLedger of(String... statements) {
        return Check.loaded("ledger;" + String.join("", statements));
    }

    /** The text has no error. */
    static void good(String text, int quests) {
        QuestLedger x = new QuestLedger();
        Check.due(text, quests, () -> Check.load(x, text));
        Check.due(text + ": errorOffset", -1, x::errorOffset);
    }

    /** The text has its first error where the second part begins. */
    static void bad(int error, String ahead, String behind) {
        QuestLedger x = new QuestLedger();
        String text = ahead + behind;
        Check.due(text, error, () -> Check.load(x, text));
        Check.due(text + ": errorOffset", ahead.length(), x::errorOffset);
    }

    /** The numbers least to most, and none beside them, are taken; the others are answered by the exception. */
    static void range(String what, int least, int most, String exception, Function<Integer, Object> call) {
        for (int number : new int[] {least, most}) {
            Check.due(what + " " + number + " is taken", false, () -> exception.equals(Check.answerOf(() -> call.apply(number))));
        }
        beside(what, least, most, exception, call);
    }

    static void beside(String what, int least, int most, String exception, Function<Integer, Object> call) {
        for (int number : new int[] {least - 1, most + 1, Integer.MIN_VALUE, Integer.MAX_VALUE}) {
            Check.due(what + " " + number, exception, () -> call.apply(number));
        }
    }
}
