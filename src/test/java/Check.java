import java.util.NoSuchElementException;

/** What the tests have in common: loading a text, comparing answers and counting what is wrong. */
final class Check {
    private static final int MOST_SHOWN = 30;
    private static int wrong = 0;
    private static int compared = 0;
    /** The sentence that is tested just now, told with what is wrong. */
    private static String about = "";

    private Check() {
    }

    interface Call {
        Object answer();
    }

    static void due(String what, Object want, Call call) {
        compared++;
        Object got = answerOf(call);
        if (!want.equals(got)) {
            wrong++;
            if (wrong <= MOST_SHOWN) {
                System.out.println(about + what + " answered " + got + ", due is " + want);
            }
        }
    }

    static void tellAbout(String sentence) {
        about = sentence;
    }

    static int compared() {
        return compared;
    }

    /** An exception counts as the answer "throws." and its name; one of the machine's own is told apart by its class. */
    static Object answerOf(Call call) {
        try {
            return call.answer();
        } catch (RuntimeException e) {
            return "throws." + e.getClass().getSimpleName();
        }
    }

    static final String INDEX = "throws." + IndexOutOfBoundsException.class.getSimpleName();
    static final String ARGUMENT = "throws." + IllegalArgumentException.class.getSimpleName();
    static final String STATE = "throws." + IllegalStateException.class.getSimpleName();
    static final String ELEMENT = "throws." + NoSuchElementException.class.getSimpleName();

    /** Appends the text, filled up with spaces; answers the length of the buffer. */
    static int append(QuestLedger ledger, String text) {
        int length = 0;
        for (int from = 0; from < text.length(); from += 20) {
            int[] words = new int[5];
            for (int k = 0; k < 20; k++) {
                int value = from + k < text.length() ? text.charAt(from + k) & 255 : ' ';
                words[k / 4] = words[k / 4] << 8 | value;
            }
            length = ledger.append(words[0], words[1], words[2], words[3], words[4]);
        }
        return length;
    }

    static int load(QuestLedger ledger, String text) {
        append(ledger, text);
        return ledger.load(text.length());
    }

    static QuestLedger loaded(String text) {
        QuestLedger ledger = new QuestLedger();
        int quests = load(ledger, text);
        if (quests < 0) {
            wrong++;
            System.out.println(about + "error " + quests + " at " + ledger.errorOffset() + " of: " + text);
        }
        return ledger;
    }

    static void end() {
        System.out.println(compared + " answers compared, " + wrong + " wrong");
        if (wrong != 0) {
            System.exit(1);
        }
    }
}
