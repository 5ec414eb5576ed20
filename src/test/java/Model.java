import java.util.ArrayDeque;
import java.util.ArrayList;
import java.util.Arrays;
import java.util.Deque;
import java.util.HashSet;
import java.util.List;
import java.util.NoSuchElementException;
import java.util.Set;
import java.util.function.IntPredicate;

/**
 * The document once more, written for plainness alone: the ways of a quest are walked one by one,
 * and each change keeps a whole copy of what was before. The class is compared with it.
 */
final class Model {
    /** What a worth expression asks of a quest. */
    interface Sum {
        long value(long[] seen);
    }

    static final class Step implements Cloneable {
        int risk;
        int limit;
        int fails;
        boolean done;
        boolean costly;
        List<Integer> after = new ArrayList<>();
        int[][] amounts = new int[3][8];

        Step copy() {
            Step copy = new Step();
            copy.risk = risk;
            copy.limit = limit;
            copy.fails = fails;
            copy.done = done;
            copy.costly = costly;
            copy.after = after;
            copy.amounts = amounts;
            return copy;
        }
    }

    static final class Quest {
        int status;
        int rewardItem;
        int rewardAmount;
        List<Step> steps = new ArrayList<>();
        IntPredicate goal;

        Quest copy() {
            Quest copy = new Quest();
            copy.status = status;
            copy.rewardItem = rewardItem;
            copy.rewardAmount = rewardAmount;
            copy.goal = goal;
            for (Step step : steps) {
                copy.steps.add(step.copy());
            }
            return copy;
        }

        int done() {
            int set = 0;
            for (int k = 0; k < steps.size(); k++) {
                set += steps.get(k).done ? 1 << k : 0;
            }
            return set;
        }
    }

    static final class Data {
        int[] stock = new int[8];
        int seed;
        Deque<Integer> queue = new ArrayDeque<>();
        List<Quest> quests = new ArrayList<>();
        Sum worth;

        Data copy() {
            Data copy = new Data();
            copy.stock = stock.clone();
            copy.seed = seed;
            copy.queue = new ArrayDeque<>(queue);
            copy.worth = worth;
            for (Quest quest : quests) {
                copy.quests.add(quest.copy());
            }
            return copy;
        }
    }

    private Data data = new Data();
    private final List<Data> before = new ArrayList<>();
    private final StringBuilder buffer = new StringBuilder();
    private int errorOffset = -1;

    private void change() {
        before.add(data.copy());
        if (before.size() > 8) {
            before.remove(0);
        }
    }

    private Quest questAt(int index) {
        if (index < 0 || index >= data.quests.size()) {
            throw new IndexOutOfBoundsException();
        }
        return data.quests.get(index);
    }

    private Step stepAt(int quest, int step) {
        List<Step> steps = questAt(quest).steps;
        if (step < 0 || step >= steps.size()) {
            throw new IndexOutOfBoundsException();
        }
        return steps.get(step);
    }

    private static void item(int item) {
        if (item < 0 || item > 7) {
            throw new IndexOutOfBoundsException();
        }
    }

    private static void among(int value, int least, int most) {
        if (value < least || value > most) {
            throw new IllegalArgumentException();
        }
    }

    int append(int... words) {
        if (buffer.length() + 20 > 800) {
            return -1;
        }
        for (int word : words) {
            buffer.append((char) (word >> 24 & 255)).append((char) (word >> 16 & 255));
            buffer.append((char) (word >> 8 & 255)).append((char) (word & 255));
        }
        return buffer.length();
    }

    int load(int length) {
        among(length, 0, buffer.length());
        String text = buffer.substring(0, length);
        buffer.setLength(0);
        ModelText read = new ModelText(text);
        Data loaded = read.readOrNull();
        if (loaded == null) {
            errorOffset = read.errorOffset;
            return read.error;
        }
        errorOffset = -1;
        change();
        data = loaded;
        return data.quests.size();
    }

    int errorOffset() {
        return errorOffset;
    }

    int state(int what) {
        among(what, 0, 8);
        int sum = 0;
        for (Quest quest : data.quests) {
            for (Step step : quest.steps) {
                sum += what == 1 ? 1 : what == 4 && step.done ? 1 : what == 5 ? step.fails : 0;
            }
            sum += what == 0 || what == 2 && quest.status == 1 || what == 3 && quest.status == 2 ? 1 : 0;
            sum += what == 8 && plan(quest, data.stock) != null ? 1 : 0;
        }
        return what == 6 ? data.queue.size() : what == 7 ? data.seed : sum;
    }

    int stock(int item) {
        item(item);
        return data.stock[item];
    }

    int quest(int quest, int what) {
        Quest q = questAt(quest);
        among(what, 0, 7);
        int broken = 0;
        int free = 0;
        int fails = 0;
        for (int k = 0; k < q.steps.size(); k++) {
            Step step = q.steps.get(k);
            broken += step.fails == step.limit ? 1 << k : 0;
            free += why(q, k, q.done(), data.stock) == 0 ? 1 << k : 0;
            fails += step.fails;
        }
        return new int[] {q.steps.size(), q.status, q.done(), broken, q.rewardItem, q.rewardAmount, fails, free}[what];
    }

    int step(int quest, int step, int what) {
        Step s = stepAt(quest, step);
        among(what, 0, 5);
        int after = 0;
        for (int k : s.after) {
            after += 1 << k;
        }
        return new int[] {s.risk, s.limit, s.fails, s.done ? 1 : 0, after, s.costly ? 1 : 0}[what];
    }

    int amount(int quest, int step, int item, int what) {
        Step s = stepAt(quest, step);
        item(item);
        among(what, 0, 2);
        return s.amounts[what][item];
    }

    int why(int quest, int step) {
        stepAt(quest, step);
        Quest q = questAt(quest);
        return why(q, step, q.done(), data.stock);
    }

    private static int why(Quest quest, int k, int done, int[] stock) {
        Step step = quest.steps.get(k);
        if (quest.status != 0) {
            return 1;
        }
        if ((done & 1 << k) != 0) {
            return 2;
        }
        if (step.fails == step.limit) {
            return 3;
        }
        for (int other : step.after) {
            if ((done & 1 << other) == 0) {
                return 4;
            }
        }
        for (int item = 0; item < 8; item++) {
            if (stock[item] < step.amounts[0][item] || stock[item] < step.amounts[1][item]) {
                return 5;
            }
        }
        return 0;
    }

    boolean holds(int quest, int steps) {
        Quest q = questAt(quest);
        among(steps, 0, 63);
        return q.goal.test(steps);
    }

    private static int[] moved(int[] stock, Step step) {
        int[] rest = stock.clone();
        for (int item = 0; item < 8; item++) {
            rest[item] += step.amounts[2][item] - step.amounts[0][item];
        }
        return rest;
    }

    /** Each way of the quest, step by step, the smaller step first. */
    private static List<List<Integer>> ways(Quest quest, int[] stock) {
        List<List<Integer>> ways = new ArrayList<>();
        walk(quest, quest.done(), stock, new ArrayList<>(), ways);
        return ways;
    }

    private static void walk(Quest quest, int done, int[] stock, List<Integer> gone, List<List<Integer>> ways) {
        if (!gone.isEmpty() && quest.goal.test(done)) {
            ways.add(new ArrayList<>(gone));
            return;
        }
        for (int k = 0; k < quest.steps.size(); k++) {
            if (why(quest, k, done, stock) == 0) {
                gone.add(k);
                walk(quest, done | 1 << k, moved(stock, quest.steps.get(k)), gone, ways);
                gone.remove(gone.size() - 1);
            }
        }
    }

    private static List<Integer> plan(Quest quest, int[] stock) {
        List<Integer> best = null;
        for (List<Integer> way : ways(quest, stock)) {
            if (best == null || way.size() < best.size()) {
                best = way;
            }
        }
        return best;
    }

    private static int risk(Quest quest, List<Integer> way) {
        int sum = 0;
        for (int k : way) {
            sum += quest.steps.get(k).risk;
        }
        return sum;
    }

    boolean possible(int quest) {
        return !ways(questAt(quest), data.stock).isEmpty();
    }

    int planLength(int quest) {
        List<Integer> plan = plan(questAt(quest), data.stock);
        return plan == null ? -1 : plan.size();
    }

    int planStep(int quest, int k) {
        List<Integer> plan = plan(questAt(quest), data.stock);
        if (plan == null || k < 0 || k >= plan.size()) {
            throw new NoSuchElementException();
        }
        return plan.get(k);
    }

    int safest(int quest) {
        Quest q = questAt(quest);
        int least = -1;
        for (List<Integer> way : ways(q, data.stock)) {
            least = least < 0 ? risk(q, way) : Math.min(least, risk(q, way));
        }
        return least;
    }

    int endings(int quest) {
        Quest q = questAt(quest);
        Set<Integer> sets = new HashSet<>();
        for (List<Integer> way : ways(q, data.stock)) {
            int set = q.done();
            for (int k : way) {
                set |= 1 << k;
            }
            sets.add(set);
        }
        return sets.size();
    }

    int lacking(int quest, int item) {
        Quest q = questAt(quest);
        item(item);
        for (int more = 0; more <= 99; more++) {
            int[] stock = data.stock.clone();
            stock[item] += more;
            if (!ways(q, stock).isEmpty()) {
                return more;
            }
        }
        return -1;
    }

    int campaign() {
        Data copy = data.copy();
        int finished = 0;
        while (true) {
            Quest quest = null;
            for (int k = copy.quests.size() - 1; k >= 0; k--) {
                quest = plan(copy.quests.get(k), copy.stock) != null ? copy.quests.get(k) : quest;
            }
            if (quest == null) {
                return finished;
            }
            for (int k : plan(quest, copy.stock)) {
                succeed(copy, quest, k);
            }
            finished++;
        }
    }

    private static void succeed(Data data, Quest quest, int k) {
        data.stock = moved(data.stock, quest.steps.get(k));
        quest.steps.get(k).done = true;
        if (quest.goal.test(quest.done())) {
            quest.status = 1;
            data.stock[quest.rewardItem] += quest.rewardAmount;
        }
    }

    int worth(int quest) {
        Quest q = questAt(quest);
        List<Integer> plan = plan(q, data.stock);
        if (data.worth == null) {
            return q.rewardAmount;
        }
        int fails = 0;
        for (Step step : q.steps) {
            fails += step.fails;
        }
        return (int) data.worth.value(new long[] {plan == null ? -1 : plan.size(), plan == null ? 0 : risk(q, plan),
            Integer.bitCount(q.done()), fails, q.rewardAmount, quest});
    }

    int best() {
        int best = -1;
        for (int k = data.quests.size() - 1; k >= 0; k--) {
            if (possible(k) && (best < 0 || worth(k) >= worth(best))) {
                best = k;
            }
        }
        return best;
    }

    double chance(int quest) {
        Quest q = questAt(quest);
        List<Integer> plan = plan(q, data.stock);
        if (plan == null) {
            return 0.0;
        }
        double product = 1.0;
        for (int k : plan) {
            product *= (double) (100 - q.steps.get(k).risk) / 100.0;
        }
        return product;
    }

    float progress() {
        return state(1) == 0 ? 0 : (float) state(4) / (float) state(1);
    }

    int tell(int a, int b) {
        among(a, 0, 99);
        among(b, 0, 99);
        if (data.queue.size() > 38) {
            throw new IllegalStateException();
        }
        change();
        data.queue.add(a);
        data.queue.add(b);
        return data.queue.size();
    }

    private int draw() {
        if (!data.queue.isEmpty()) {
            return data.queue.remove();
        }
        data.seed = data.seed * 1103515245 + 12345;
        int number = 0;
        for (int bit = 16; bit <= 30; bit++) {
            number += (data.seed & 1 << bit) != 0 ? 1 << bit - 16 : 0;
        }
        return number % 100;
    }

    private int tryStep(Quest quest, int k) {
        Step step = quest.steps.get(k);
        if (draw() >= step.risk) {
            succeed(data, quest, k);
            return quest.status == 1 ? 2 : 1;
        }
        step.fails++;
        for (int item = 0; item < 8 && step.costly; item++) {
            data.stock[item] -= step.amounts[0][item];
        }
        Set<Integer> never = new HashSet<>();
        for (int round = 0; round < 10; round++) {
            for (int n = 0; n < quest.steps.size(); n++) {
                Step other = quest.steps.get(n);
                boolean behindNever = false;
                for (int ahead : other.after) {
                    behindNever |= never.contains(ahead);
                }
                if (!other.done && (other.fails == other.limit || behindNever)) {
                    never.add(n);
                }
            }
        }
        int all = 0;
        for (int n = 0; n < quest.steps.size(); n++) {
            all += never.contains(n) ? 0 : 1 << n;
        }
        if (!quest.goal.test(all)) {
            quest.status = 2;
            return 3;
        }
        return 0;
    }

    int attempt(int quest, int step) {
        if (why(quest, step) != 0) {
            throw new IllegalStateException();
        }
        change();
        return tryStep(questAt(quest), step);
    }

    int play(int quest) {
        Quest q = questAt(quest);
        change();
        int tries = 0;
        for (List<Integer> plan = plan(q, data.stock); plan != null; plan = plan(q, data.stock)) {
            tryStep(q, plan.get(0));
            tries++;
        }
        return tries;
    }

    int add(int item, int amount) {
        item(item);
        among(amount, 1, 999);
        if (data.stock[item] + amount > 1000000) {
            throw new IllegalStateException();
        }
        change();
        data.stock[item] += amount;
        return data.stock[item];
    }

    int spend(int item, int amount) {
        item(item);
        among(amount, 1, 999);
        if (data.stock[item] < amount) {
            throw new IllegalStateException();
        }
        change();
        data.stock[item] -= amount;
        return data.stock[item];
    }

    int mend(int quest, int step) {
        Step s = stepAt(quest, step);
        change();
        int fails = s.fails;
        s.fails = 0;
        return fails;
    }

    int giveUp(int quest) {
        Quest q = questAt(quest);
        if (q.status != 0) {
            throw new IllegalStateException();
        }
        change();
        q.status = 2;
        return q.done();
    }

    int reopen(int quest) {
        Quest q = questAt(quest);
        change();
        int status = q.status;
        q.status = 0;
        for (Step step : q.steps) {
            step.done = false;
            step.fails = 0;
        }
        return status;
    }

    int undo() {
        if (before.isEmpty()) {
            return -1;
        }
        data = before.remove(before.size() - 1);
        return before.size();
    }

    long checksum() {
        List<Integer> numbers = new ArrayList<>();
        for (int k = 0; k <= 8; k++) {
            numbers.add(state(k));
        }
        for (int stock : data.stock) {
            numbers.add(stock);
        }
        for (int q = 0; q < data.quests.size(); q++) {
            for (int k = 0; k <= 7; k++) {
                numbers.add(quest(q, k));
            }
            numbers.add(worth(q));
            for (int s = 0; s < data.quests.get(q).steps.size(); s++) {
                for (int k = 0; k <= 5; k++) {
                    numbers.add(step(q, s, k));
                }
            }
        }
        long sum = 0;
        for (int number : numbers) {
            sum = 31 * sum + number;
        }
        return sum;
    }

    @Override
    public String toString() {
        return "seed " + data.seed + ", stock " + Arrays.toString(data.stock);
    }
}
