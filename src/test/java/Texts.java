import java.util.Random;

/** Makes setup texts for the comparison with the model: mostly right ones, and damaged ones. */
final class Texts {
    private static final String[] WORDS = {"ledger", "stock", "seed", "worth", "quest", "step", "goal", "uses", "needs",
        "gives", "after", "costly", "and", "or", "of", "length", "risk", "done", "fails", "reward", ";", ",", "(", ")",
        "+", "-", "*", "/", "0", "1", "2", "5", "6", "7", "8", "99", "100", "101", "999", "1000", "9999", "10000",
        "99999999999", "x", ".", "\n", "of(", "((", "1 of (", "costly costly", "seed 1;", "worth 1;", "quest 0 0;"};

    private final Random random;

    Texts(Random random) {
        this.random = random;
    }

    private int below(int bound) {
        return random.nextInt(bound);
    }

    private boolean one(int in) {
        return below(in) == 0;
    }

    String good() {
        while (true) {
            String text = setup();
            if (text.length() <= 800) {
                return text;
            }
        }
    }

    /** A text in which up to two tokens are put in, left out, doubled or exchanged, or that is cut off. */
    String damaged() {
        String text = good();
        for (int n = below(2); n >= 0; n--) {
            int from = text.isEmpty() ? 0 : below(text.length());
            while (from > 0 && from < text.length() && Character.isLetterOrDigit(text.charAt(from)) && !one(4)) {
                from--;
            }
            int to = Math.min(text.length(), from + 1 + below(4));
            String word = WORDS[below(WORDS.length)];
            int kind = below(5);
            text = kind == 0 ? text.substring(0, from)
                : kind == 1 ? text.substring(0, from) + text.substring(to)
                : kind == 2 ? text.substring(0, to) + text.substring(from)
                : kind == 3 ? text.substring(0, from) + word + text.substring(from)
                : text.substring(0, from) + " " + word + " " + text.substring(to);
        }
        return text.length() <= 800 ? text : text.substring(0, 800);
    }

    private String gap() {
        return one(8) ? "  " : " ";
    }

    private String loose() {
        return one(8) ? " " : "";
    }

    private String setup() {
        StringBuilder text = new StringBuilder(loose() + "ledger" + loose() + ";");
        int quests = one(20) ? 0 : 1 + below(6);
        boolean worth = one(2);
        boolean seed = one(2);
        int stocked = 0;
        for (int n = 0; n <= quests; n++) {
            if (!one(4)) {
                StringBuilder pairs = new StringBuilder();
                for (int k = below(4); k >= 0; k--) {
                    int item = below(8);
                    if ((stocked & 1 << item) == 0) {
                        stocked |= 1 << item;
                        pairs.append(gap()).append(item).append(gap()).append(one(6) ? below(1000) : below(8));
                    }
                }
                text.append(pairs.length() == 0 ? "" : "stock" + pairs + loose() + ";");
            }
            if (seed && one(2)) {
                seed = false;
                text.append("seed").append(loose()).append(below(10000)).append(";");
            }
            if (worth && one(2)) {
                worth = false;
                text.append("worth").append(gap()).append(sum(0)).append(";");
            }
            if (n < quests) {
                text.append(quest(1 + below(6)));
            }
        }
        return text.append(loose()).toString();
    }

    private String quest(int steps) {
        StringBuilder text = new StringBuilder("quest" + gap() + below(8) + gap() + below(one(3) ? 100 : 6) + ";");
        for (int n = 0; n < steps; n++) {
            text.append(step(n));
        }
        return text.append("goal").append(gap()).append(goal(steps, 0)).append(loose()).append(";").toString();
    }

    private String step(int index) {
        StringBuilder text = new StringBuilder("step" + gap() + 10 * below(11) + gap() + (1 + below(one(3) ? 9 : 2)));
        String[] words = {"uses", "needs", "gives"};
        for (String word : words) {
            if (one(2)) {
                int first = below(8);
                text.append(gap()).append(word).append(gap()).append(first).append(gap()).append(1 + below(one(9) ? 99 : 4));
                if (one(3)) {
                    text.append(gap()).append((first + 1 + below(7)) % 8).append(gap()).append(1 + below(4));
                }
            }
        }
        if (index > 0 && one(3)) {
            int first = below(index);
            text.append(gap()).append("after").append(gap()).append(first);
            if (index > 1 && one(2)) {
                text.append(gap()).append(one(2) ? "after " : "").append((first + 1) % index);
            }
        }
        return text.append(one(3) ? gap() + "costly" : "").append(loose()).append(";").toString();
    }

    private String goal(int steps, int depth) {
        StringBuilder text = new StringBuilder(single(steps, depth));
        for (int n = 0; n < 3 && one(2); n++) {
            text.append(gap()).append(one(2) ? "or" : "and").append(gap()).append(single(steps, depth));
        }
        return text.toString();
    }

    private String single(int steps, int depth) {
        if (depth == 4 || !one(3)) {
            return "" + below(steps);
        }
        if (one(2)) {
            return "(" + loose() + goal(steps, depth + 1) + ")";
        }
        StringBuilder text = new StringBuilder((1 + below(one(5) ? 6 : 3)) + gap() + "of" + loose() + "(");
        text.append(goal(steps, depth + 1));
        for (int n = below(4); n > 0; n--) {
            text.append(loose()).append(",").append(goal(steps, depth + 1));
        }
        return text.append(")").toString();
    }

    private String sum(int depth) {
        StringBuilder text = new StringBuilder(term(depth));
        for (int n = 0; n < 3 && one(2); n++) {
            text.append(one(2) ? "+" : loose() + "-").append(term(depth));
        }
        return text.toString();
    }

    private String term(int depth) {
        StringBuilder text = new StringBuilder(factor(depth));
        for (int n = 0; n < 3 && one(2); n++) {
            text.append(one(2) ? "*" : loose() + "/").append(factor(depth));
        }
        return text.toString();
    }

    private String factor(int depth) {
        if (depth < 4 && one(5)) {
            return "(" + sum(depth + 1) + ")";
        }
        String[] names = {"length", "risk", "done", "fails", "reward", "quest"};
        return one(3) ? "" + (one(2) ? below(10) : below(10000)) : names[below(6)];
    }
}
