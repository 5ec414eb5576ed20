import java.util.ArrayList;
import java.util.HashSet;
import java.util.List;
import java.util.Set;
import java.util.function.IntPredicate;
import java.math.BigInteger;

/** The grammar of the setup text for the model, read byte by byte; an error ends the reading. */
final class ModelText {
    private static final class Wrong extends RuntimeException {
        private static final long serialVersionUID = 1L;
    }

    private final String text;
    private int at = 0;
    int error = 0;
    int errorOffset = -1;

    ModelText(String text) {
        this.text = text;
    }

    Model.Data readOrNull() {
        try {
            return setup();
        } catch (Wrong e) {
            return null;
        }
    }

    private Wrong wrong(int code, int offset) {
        error = code;
        errorOffset = offset;
        return new Wrong();
    }

    private Wrong syntax() {
        return wrong(-2, start());
    }

    /** The offset of the next token, or the length of the text. */
    private int start() {
        while (at < text.length() && text.charAt(at) == ' ') {
            at++;
        }
        return at;
    }

    private String peek() {
        int from = start();
        int to = from;
        while (to < text.length() && text.substring(from, to + 1).matches("[0-9]+|[a-z]+|[^0-9a-z]")) {
            to++;
        }
        return text.substring(from, to);
    }

    private boolean sees(String token) {
        return peek().equals(token);
    }

    private boolean seesNumber() {
        return peek().matches("[0-9]+");
    }

    private boolean accept(String token) {
        if (!sees(token)) {
            return false;
        }
        at = start() + token.length();
        return true;
    }

    private void expect(String token) {
        if (!accept(token)) {
            throw syntax();
        }
    }

    private BigInteger digits() {
        if (!seesNumber()) {
            throw syntax();
        }
        String run = peek();
        at = start() + run.length();
        return new BigInteger(run);
    }

    private int number(int least, int most) {
        int offset = start();
        return ranged(digits(), least, most, offset);
    }

    private int ranged(BigInteger value, int least, int most, int offset) {
        if (value.compareTo(BigInteger.valueOf(least)) < 0 || value.compareTo(BigInteger.valueOf(most)) > 0) {
            throw wrong(-3, offset);
        }
        return value.intValue();
    }

    private Model.Data setup() {
        Model.Data data = new Model.Data();
        Set<Integer> stocked = new HashSet<>();
        boolean seed = false;
        expect("ledger");
        expect(";");
        while (start() < text.length()) {
            if (accept("stock")) {
                do {
                    int offset = start();
                    int item = number(0, 7);
                    if (!stocked.add(item)) {
                        throw wrong(-4, offset);
                    }
                    data.stock[item] = number(0, 999);
                } while (seesNumber());
            } else if (!seed && accept("seed")) {
                data.seed = number(0, 9999);
                seed = true;
            } else if (data.worth == null && accept("worth")) {
                data.worth = sum(0);
            } else if (sees("quest")) {
                if (data.quests.size() == 6) {
                    throw wrong(-5, start());
                }
                data.quests.add(quest());
            } else {
                throw syntax();
            }
            expect(";");
        }
        return data;
    }

    private Model.Quest quest() {
        Model.Quest quest = new Model.Quest();
        expect("quest");
        quest.rewardItem = number(0, 7);
        quest.rewardAmount = number(0, 99);
        expect(";");
        do {
            if (sees("step") && quest.steps.size() == 6) {
                throw wrong(-5, start());
            }
            quest.steps.add(step(quest.steps.size()));
            expect(";");
        } while (!accept("goal") && (sees("step") || fails()));
        quest.goal = goal(quest.steps.size(), 0);
        return quest;
    }

    private boolean fails() {
        throw syntax();
    }

    private Model.Step step(int index) {
        Model.Step step = new Model.Step();
        expect("step");
        step.risk = number(0, 100);
        step.limit = number(1, 9);
        while (!sees(";")) {
            String word = peek();
            if (word.equals("costly") && !step.costly) {
                expect("costly");
                step.costly = true;
            } else if (accept("after")) {
                do {
                    int offset = start();
                    Integer other = number(0, index - 1);
                    if (step.after.contains(other)) {
                        throw wrong(-4, offset);
                    }
                    step.after.add(other);
                } while (seesNumber());
            } else if (accept("uses") || accept("needs") || accept("gives")) {
                int[] amounts = step.amounts[List.of("uses", "needs", "gives").indexOf(word)];
                do {
                    int offset = start();
                    int item = number(0, 7);
                    if (amounts[item] != 0) {
                        throw wrong(-4, offset);
                    }
                    amounts[item] = number(1, 99);
                } while (seesNumber());
            } else {
                throw syntax();
            }
        }
        return step;
    }

    private IntPredicate goal(int steps, int depth) {
        IntPredicate goal = all(steps, depth);
        while (accept("or")) {
            goal = goal.or(all(steps, depth));
        }
        return goal;
    }

    private IntPredicate all(int steps, int depth) {
        IntPredicate goal = single(steps, depth);
        while (accept("and")) {
            goal = goal.and(single(steps, depth));
        }
        return goal;
    }

    private int openedIn(int depth) {
        int offset = start();
        expect("(");
        if (depth == 4) {
            throw wrong(-6, offset);
        }
        return depth + 1;
    }

    private IntPredicate single(int steps, int depth) {
        if (!seesNumber()) {
            int inner = openedIn(depth);
            IntPredicate goal = goal(steps, inner);
            expect(")");
            return goal;
        }
        int offset = start();
        BigInteger value = digits();
        if (!accept("of")) {
            int step = ranged(value, 0, steps - 1, offset);
            return set -> (set & 1 << step) != 0;
        }
        int least = ranged(value, 1, 6, offset);
        int inner = openedIn(depth);
        List<IntPredicate> goals = new ArrayList<>();
        do {
            goals.add(goal(steps, inner));
        } while (accept(","));
        expect(")");
        return set -> goals.stream().filter(goal -> goal.test(set)).count() >= least;
    }

    private static long limited(long value) {
        return value > 1000000 ? 1000000 : value < -1000000 ? -1000000 : value;
    }

    private Model.Sum sum(int depth) {
        Model.Sum left = term(depth);
        while (sees("+") || sees("-")) {
            Model.Sum first = left;
            boolean plus = accept("+") || !accept("-");
            Model.Sum second = term(depth);
            left = seen -> limited(plus ? first.value(seen) + second.value(seen) : first.value(seen) - second.value(seen));
        }
        return left;
    }

    private Model.Sum term(int depth) {
        Model.Sum left = factor(depth);
        while (sees("*") || sees("/")) {
            Model.Sum first = left;
            boolean times = accept("*") || !accept("/");
            Model.Sum second = factor(depth);
            left = seen -> limited(times ? first.value(seen) * second.value(seen) : quotient(first.value(seen), second.value(seen)));
        }
        return left;
    }

    private static long quotient(long a, long b) {
        return b == 0 ? 0 : a / b;
    }

    private Model.Sum factor(int depth) {
        if (seesNumber()) {
            int number = number(0, 9999);
            return seen -> number;
        }
        int name = List.of("length", "risk", "done", "fails", "reward", "quest").indexOf(peek());
        if (name >= 0) {
            expect(peek());
            return seen -> seen[name];
        }
        int inner = openedIn(depth);
        Model.Sum sum = sum(inner);
        expect(")");
        return sum;
    }
}
