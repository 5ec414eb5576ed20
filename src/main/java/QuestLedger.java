import java.util.Arrays;
import java.util.NoSuchElementException;

/** Quests, their steps and the items they move, as the promises of DOC.md tell. */
public final class QuestLedger {
    public static final int SYNTAX_ERROR = -2;
    public static final int OUT_OF_RANGE = -3;
    public static final int REPEATED = -4;
    public static final int TOO_MANY = -5;
    public static final int TOO_DEEP = -6;

    private static final int ITEMS = 8;
    private static final int QUESTS = 6;
    private static final int STEPS = 6;
    private static final int SETS = 64;
    private static final int AMOUNTS = STEPS * ITEMS;

    private static final int BUFFER = 800;
    private static final int QUEUE = 40;
    private static final int UNDOABLE = 8;
    private static final int NESTED = 4;
    private static final int MOST_STOCK = 1000000;
    private static final int MOST_CHANGED = 999;
    private static final int MOST_LACKING = 99;
    private static final int MOST_WORTH = 1000000;
    /** The greatest number of a seed and of a worth. */
    private static final int MOST_TOLD = 9999;
    private static final int MOST_AMOUNT = 99;
    /** Every number of the text above this is out of its range, so larger ones need not be told apart. */
    private static final int HUGE = 1000000;
    /** Far above the 60 tries that 6 steps with 9 fails each can take. */
    private static final int MOST_TRIES = 100000;

    private static final int OPEN = 0;
    private static final int DONE = 1;
    private static final int LOST = 2;

    private static final int CAN_BE_TRIED = 0;
    private static final int QUEST_NOT_OPEN = 1;
    private static final int STEP_DONE = 2;
    private static final int STEP_BROKEN = 3;
    private static final int STEP_TOO_EARLY = 4;
    private static final int ITEM_LACKING = 5;

    private static final int TRY_FAILED = 0;
    private static final int TRY_SUCCEEDED = 1;
    private static final int TRY_ENDED_QUEST = 2;
    private static final int TRY_LOST_QUEST = 3;

    /** In worth code a number stands for itself, so all that is no number is negative. */
    private static final int LENGTH_CODE = -1;
    private static final int RISK_CODE = -2;
    private static final int DONE_CODE = -3;
    private static final int FAILS_CODE = -4;
    private static final int REWARD_CODE = -5;
    private static final int QUEST_CODE = -6;
    private static final int PLUS_CODE = -7;
    private static final int MINUS_CODE = -8;
    private static final int TIMES_CODE = -9;
    private static final int OVER_CODE = -10;

    /** For each step k the sets of steps that have it: bit s is set if the set s has k. */
    private static final long[] SETS_WITH = {
        0xAAAAAAAAAAAAAAAAL, 0xCCCCCCCCCCCCCCCCL, 0xF0F0F0F0F0F0F0F0L,
        0xFF00FF00FF00FF00L, 0xFFFF0000FFFF0000L, 0xFFFFFFFF00000000L};

    private static final Token[] TOKENS = Token.values();

    private final int[] buffer = new int[BUFFER];
    private int bufferLength = 0;
    private int latestErrorOffset = -1;

    private final Ledger now = new Ledger();
    /** Holds what is only tried out: a text, a campaign, a stock with more of an item. */
    private final Ledger draft = new Ledger();
    private final History history = new History();
    private final SetupReader reader = new SetupReader();
    private final Ways ways = new Ways();
    private final WorthMeter worthMeter = new WorthMeter();

    public QuestLedger() {
    }

    public int append(int w0, int w1, int w2, int w3, int w4) {
        if (bufferLength + 20 > BUFFER) {
            return -1;
        }
        appendWord(w0);
        appendWord(w1);
        appendWord(w2);
        appendWord(w3);
        appendWord(w4);
        return bufferLength;
    }

    private void appendWord(int word) {
        for (int shift = 24; shift >= 0; shift -= 8) {
            put(buffer, bufferLength, (word >>> shift) & 255);
            bufferLength++;
        }
    }

    public int load(int length) throws IllegalArgumentException {
        if (length < 0 || length > bufferLength) {
            throw new IllegalArgumentException();
        }
        bufferLength = 0;
        int error = reader.read(buffer, length, draft);
        latestErrorOffset = reader.offsetOfError();
        if (error != 0) {
            return error;
        }
        history.remember(now);
        now.copyFrom(draft);
        return now.questCount;
    }

    public int errorOffset() {
        return latestErrorOffset;
    }

    public int state(int what) throws IllegalArgumentException {
        if (what < 0 || what > 8) {
            throw new IllegalArgumentException();
        }
        if (what == 0) {
            return now.questCount;
        }
        if (what == 6) {
            return now.queueLength;
        }
        if (what == 7) {
            return now.seed;
        }
        int sum = 0;
        for (int k = 0; k < now.questCount && k < QUESTS; k++) {
            sum += shareOf(now.quests[k], what);
        }
        return sum;
    }

    private int shareOf(Quest quest, int what) {
        switch (what) {
            case 1:
                return quest.stepCount;
            case 2:
                return quest.status == DONE ? 1 : 0;
            case 3:
                return quest.status == LOST ? 1 : 0;
            case 4:
                return Integer.bitCount(quest.done);
            case 5:
                return quest.sumOfFails();
            default:
                return ways.explore(quest, now.stock) ? 1 : 0;
        }
    }

    public int stock(int item) throws IndexOutOfBoundsException {
        checkItem(item);
        return at(now.stock, item);
    }

    public int quest(int quest, int what) throws IndexOutOfBoundsException, IllegalArgumentException {
        Quest asked = questAt(quest);
        switch (what) {
            case 0:
                return asked.stepCount;
            case 1:
                return asked.status;
            case 2:
                return asked.done;
            case 3:
                return asked.brokenSteps();
            case 4:
                return asked.rewardItem;
            case 5:
                return asked.rewardAmount;
            case 6:
                return asked.sumOfFails();
            case 7:
                return asked.stepsToTry(now.stock);
            default:
                throw new IllegalArgumentException();
        }
    }

    public int step(int quest, int step, int what) throws IndexOutOfBoundsException, IllegalArgumentException {
        Quest asked = questWithStep(quest, step);
        switch (what) {
            case 0:
                return at(asked.risk, step);
            case 1:
                return at(asked.limit, step);
            case 2:
                return at(asked.fails, step);
            case 3:
                return asked.isDone(step) ? 1 : 0;
            case 4:
                return at(asked.ahead, step);
            case 5:
                return at(asked.costly, step);
            default:
                throw new IllegalArgumentException();
        }
    }

    public int amount(int quest, int step, int item, int what)
            throws IndexOutOfBoundsException, IllegalArgumentException {
        Quest asked = questWithStep(quest, step);
        checkItem(item);
        int cell = step * ITEMS + item;
        switch (what) {
            case 0:
                return at(asked.uses, cell);
            case 1:
                return at(asked.needs, cell);
            case 2:
                return at(asked.gives, cell);
            default:
                throw new IllegalArgumentException();
        }
    }

    public int why(int quest, int step) throws IndexOutOfBoundsException {
        return questWithStep(quest, step).hindrance(step, now.stock);
    }

    public boolean holds(int quest, int steps) throws IndexOutOfBoundsException, IllegalArgumentException {
        Quest asked = questAt(quest);
        if (steps < 0 || steps >= SETS) {
            throw new IllegalArgumentException();
        }
        return asked.goalHolds(steps);
    }

    public boolean possible(int quest) throws IndexOutOfBoundsException {
        return ways.explore(questAt(quest), now.stock);
    }

    public int planLength(int quest) throws IndexOutOfBoundsException {
        Quest asked = questAt(quest);
        ways.explore(asked, now.stock);
        return ways.lengthOfPlan(asked);
    }

    public int planStep(int quest, int k) throws IndexOutOfBoundsException, NoSuchElementException {
        Quest asked = questAt(quest);
        ways.explore(asked, now.stock);
        if (k < 0 || k >= ways.lengthOfPlan(asked)) {
            throw new NoSuchElementException();
        }
        return ways.nextOfPlan(ways.setBehindPlan(asked, k));
    }

    public int safest(int quest) throws IndexOutOfBoundsException {
        Quest asked = questAt(quest);
        ways.explore(asked, now.stock);
        return ways.smallestRisk(asked);
    }

    public int endings(int quest) throws IndexOutOfBoundsException {
        Quest asked = questAt(quest);
        ways.explore(asked, now.stock);
        return ways.countEndings(asked);
    }

    public int lacking(int quest, int item) throws IndexOutOfBoundsException {
        Quest asked = questAt(quest);
        checkItem(item);
        if (!hasWayWithMore(asked, item, MOST_LACKING)) {
            return -1;
        }
        // More of an item never hinders, so what is enough can be found by halving.
        int least = 0;
        int enough = MOST_LACKING;
        for (int round = 0; round < MOST_LACKING && least < enough; round++) {
            int middle = (least + enough) / 2;
            if (hasWayWithMore(asked, item, middle)) {
                enough = middle;
            } else {
                least = middle + 1;
            }
        }
        return enough;
    }

    private boolean hasWayWithMore(Quest quest, int item, int more) {
        for (int k = 0; k < ITEMS; k++) {
            put(draft.stock, k, at(now.stock, k) + (k == item ? more : 0));
        }
        return ways.explore(quest, draft.stock);
    }

    public int campaign() {
        draft.copyFrom(now);
        int finished = 0;
        // Each round ends a quest for good, so there are no more rounds than quests.
        for (int round = 0; round < QUESTS; round++) {
            if (!finishFirstPossible(draft)) {
                return finished;
            }
            finished++;
        }
        return finished;
    }

    private boolean finishFirstPossible(Ledger ledger) {
        for (int k = 0; k < ledger.questCount && k < QUESTS; k++) {
            Quest quest = ledger.quests[k];
            if (ways.explore(quest, ledger.stock)) {
                int length = ways.lengthOfPlan(quest);
                for (int passed = 0; passed < length; passed++) {
                    ledger.succeed(quest, ways.nextOfPlan(quest.done));
                }
                return true;
            }
        }
        return false;
    }

    public int worth(int quest) throws IndexOutOfBoundsException {
        return worthOf(questAt(quest), quest);
    }

    private int worthOf(Quest quest, int index) {
        ways.explore(quest, now.stock);
        worthMeter.see(LENGTH_CODE, ways.lengthOfPlan(quest));
        worthMeter.see(RISK_CODE, ways.riskOfPlan(quest));
        worthMeter.see(DONE_CODE, Integer.bitCount(quest.done));
        worthMeter.see(FAILS_CODE, quest.sumOfFails());
        worthMeter.see(REWARD_CODE, quest.rewardAmount);
        worthMeter.see(QUEST_CODE, index);
        return worthMeter.measure(now.worthCode, now.worthLength);
    }

    public int best() {
        int best = -1;
        int bestWorth = 0;
        for (int k = 0; k < now.questCount && k < QUESTS; k++) {
            Quest quest = now.quests[k];
            if (ways.explore(quest, now.stock)) {
                int worth = worthOf(quest, k);
                if (best < 0 || worth > bestWorth) {
                    best = k;
                    bestWorth = worth;
                }
            }
        }
        return best;
    }

    public double chance(int quest) throws IndexOutOfBoundsException {
        Quest asked = questAt(quest);
        if (!ways.explore(asked, now.stock)) {
            return 0.0;
        }
        double chance = 1.0;
        int set = asked.done;
        int length = ways.lengthOfPlan(asked);
        for (int passed = 0; passed < length; passed++) {
            int step = ways.nextOfPlan(set);
            chance = chance * ((double) (100 - at(asked.risk, step)) / 100.0);
            set |= 1 << step;
        }
        return chance;
    }

    public float progress() {
        int all = state(1);
        if (all <= 0) {
            return 0.0f;
        }
        return (float) state(4) / (float) all;
    }

    public int tell(int a, int b) throws IllegalArgumentException, IllegalStateException {
        if (a < 0 || a > 99 || b < 0 || b > 99) {
            throw new IllegalArgumentException();
        }
        if (now.queueLength + 2 > QUEUE) {
            throw new IllegalStateException();
        }
        history.remember(now);
        now.enqueue(a);
        now.enqueue(b);
        return now.queueLength;
    }

    public int attempt(int quest, int step) throws IndexOutOfBoundsException, IllegalStateException {
        Quest tried = questWithStep(quest, step);
        if (tried.hindrance(step, now.stock) != CAN_BE_TRIED) {
            throw new IllegalStateException();
        }
        history.remember(now);
        return now.tryStep(tried, step);
    }

    public int play(int quest) throws IndexOutOfBoundsException {
        Quest played = questAt(quest);
        history.remember(now);
        int tries = 0;
        for (; tries < MOST_TRIES && ways.explore(played, now.stock); tries++) {
            now.tryStep(played, ways.nextOfPlan(played.done));
        }
        return tries;
    }

    public int add(int item, int amount)
            throws IndexOutOfBoundsException, IllegalArgumentException, IllegalStateException {
        checkItem(item);
        checkChange(amount);
        int sum = at(now.stock, item) + amount;
        if (sum > MOST_STOCK) {
            throw new IllegalStateException();
        }
        history.remember(now);
        put(now.stock, item, sum);
        return sum;
    }

    public int spend(int item, int amount)
            throws IndexOutOfBoundsException, IllegalArgumentException, IllegalStateException {
        checkItem(item);
        checkChange(amount);
        int rest = at(now.stock, item) - amount;
        if (rest < 0) {
            throw new IllegalStateException();
        }
        history.remember(now);
        put(now.stock, item, rest);
        return rest;
    }

    public int mend(int quest, int step) throws IndexOutOfBoundsException {
        Quest mended = questWithStep(quest, step);
        history.remember(now);
        int before = at(mended.fails, step);
        put(mended.fails, step, 0);
        return before;
    }

    public int giveUp(int quest) throws IndexOutOfBoundsException, IllegalStateException {
        Quest lost = questAt(quest);
        if (lost.status != OPEN) {
            throw new IllegalStateException();
        }
        history.remember(now);
        lost.status = LOST;
        return lost.done;
    }

    public int reopen(int quest) throws IndexOutOfBoundsException {
        Quest reopened = questAt(quest);
        history.remember(now);
        int before = reopened.status;
        reopened.beginAnew();
        return before;
    }

    public int undo() {
        if (!history.recall(now)) {
            return -1;
        }
        return history.count;
    }

    public long checksum() {
        long sum = 0;
        for (int what = 0; what <= 8; what++) {
            sum = 31 * sum + state(what);
        }
        for (int item = 0; item < ITEMS; item++) {
            sum = 31 * sum + at(now.stock, item);
        }
        for (int k = 0; k < now.questCount; k++) {
            sum = withQuest(sum, k);
        }
        return sum;
    }

    private long withQuest(long before, int quest) {
        long sum = before;
        for (int what = 0; what <= 7; what++) {
            sum = 31 * sum + quest(quest, what);
        }
        sum = 31 * sum + worthOf(questAt(quest), quest);
        int steps = quest(quest, 0);
        for (int step = 0; step < steps; step++) {
            for (int what = 0; what <= 5; what++) {
                sum = 31 * sum + step(quest, step, what);
            }
        }
        return sum;
    }

    private Quest questAt(int index) {
        if (index < 0 || index >= now.questCount || index >= QUESTS) {
            throw new IndexOutOfBoundsException();
        }
        return now.quests[index];
    }

    private Quest questWithStep(int index, int step) {
        Quest quest = questAt(index);
        if (step < 0 || step >= quest.stepCount) {
            throw new IndexOutOfBoundsException();
        }
        return quest;
    }

    private static void checkItem(int item) {
        if (item < 0 || item >= ITEMS) {
            throw new IndexOutOfBoundsException();
        }
    }

    private static void checkChange(int amount) {
        if (amount < 1 || amount > MOST_CHANGED) {
            throw new IllegalArgumentException();
        }
    }

    private static int at(int[] row, int index) {
        return index >= 0 && index < row.length ? row[index] : 0;
    }

    private static void put(int[] row, int index, int value) {
        if (index >= 0 && index < row.length) {
            row[index] = value;
        }
    }

    /** All data that a setup text replaces and that undo brings back. */
    private static final class Ledger {
        final int[] stock = new int[ITEMS];
        final int[] queue = new int[QUEUE];
        int queueLength = 0;
        int seed = 0;
        final Quest[] quests = new Quest[QUESTS];
        int questCount = 0;
        final int[] worthCode = new int[BUFFER];
        int worthLength = 0;

        Ledger() {
            for (int k = 0; k < QUESTS; k++) {
                quests[k] = new Quest();
            }
        }

        void clear() {
            Arrays.fill(stock, 0);
            queueLength = 0;
            seed = 0;
            questCount = 0;
            worthLength = 0;
        }

        void copyFrom(Ledger other) {
            System.arraycopy(other.stock, 0, stock, 0, ITEMS);
            System.arraycopy(other.queue, 0, queue, 0, QUEUE);
            queueLength = other.queueLength;
            seed = other.seed;
            questCount = other.questCount;
            for (int k = 0; k < questCount && k < QUESTS; k++) {
                quests[k].copyFrom(other.quests[k]);
            }
            worthLength = other.worthLength;
            for (int k = 0; k < worthLength && k < BUFFER; k++) {
                worthCode[k] = other.worthCode[k];
            }
        }

        void appendCode(int code) {
            put(worthCode, worthLength, code);
            worthLength++;
        }

        void enqueue(int drawn) {
            put(queue, queueLength, drawn);
            queueLength++;
        }

        int draw() {
            if (queueLength <= 0) {
                seed = seed * 1103515245 + 12345;
                return (seed >>> 16 & 0x7fff) % 100;
            }
            int first = queue[0];
            queueLength--;
            for (int k = 0; k < queueLength; k++) {
                put(queue, k, at(queue, k + 1));
            }
            return first;
        }

        int tryStep(Quest quest, int step) {
            if (draw() >= at(quest.risk, step)) {
                succeed(quest, step);
                return quest.status == DONE ? TRY_ENDED_QUEST : TRY_SUCCEEDED;
            }
            fail(quest, step);
            return quest.status == LOST ? TRY_LOST_QUEST : TRY_FAILED;
        }

        void succeed(Quest quest, int step) {
            change(quest.uses, step, -1);
            change(quest.gives, step, 1);
            quest.done |= 1 << step;
            if (quest.goalHolds(quest.done)) {
                quest.status = DONE;
                put(stock, quest.rewardItem, at(stock, quest.rewardItem) + quest.rewardAmount);
            }
        }

        private void fail(Quest quest, int step) {
            put(quest.fails, step, at(quest.fails, step) + 1);
            if (at(quest.costly, step) == 1) {
                change(quest.uses, step, -1);
            }
            if (!quest.canStillHold()) {
                quest.status = LOST;
            }
        }

        private void change(int[] amounts, int step, int sign) {
            for (int item = 0; item < ITEMS; item++) {
                stock[item] += sign * at(amounts, step * ITEMS + item);
            }
        }
    }

    private static final class Quest {
        int stepCount = 0;
        int status = OPEN;
        int done = 0;
        int rewardItem = 0;
        int rewardAmount = 0;
        /** Bit s is set if the goal holds when just the steps of the set s are done. */
        long goal = 0;
        final int[] risk = new int[STEPS];
        final int[] limit = new int[STEPS];
        final int[] fails = new int[STEPS];
        final int[] ahead = new int[STEPS];
        final int[] costly = new int[STEPS];
        final int[] uses = new int[AMOUNTS];
        final int[] needs = new int[AMOUNTS];
        final int[] gives = new int[AMOUNTS];

        void clear() {
            stepCount = 0;
            beginAnew();
            Arrays.fill(ahead, 0);
            Arrays.fill(costly, 0);
            Arrays.fill(uses, 0);
            Arrays.fill(needs, 0);
            Arrays.fill(gives, 0);
        }

        void beginAnew() {
            status = OPEN;
            done = 0;
            Arrays.fill(fails, 0);
        }

        void copyFrom(Quest other) {
            stepCount = other.stepCount;
            status = other.status;
            done = other.done;
            rewardItem = other.rewardItem;
            rewardAmount = other.rewardAmount;
            goal = other.goal;
            System.arraycopy(other.risk, 0, risk, 0, STEPS);
            System.arraycopy(other.limit, 0, limit, 0, STEPS);
            System.arraycopy(other.fails, 0, fails, 0, STEPS);
            System.arraycopy(other.ahead, 0, ahead, 0, STEPS);
            System.arraycopy(other.costly, 0, costly, 0, STEPS);
            System.arraycopy(other.uses, 0, uses, 0, AMOUNTS);
            System.arraycopy(other.needs, 0, needs, 0, AMOUNTS);
            System.arraycopy(other.gives, 0, gives, 0, AMOUNTS);
        }

        boolean goalHolds(int set) {
            return (goal >>> set & 1L) != 0;
        }

        boolean isDone(int step) {
            return (done >>> step & 1) != 0;
        }

        private boolean isBroken(int step) {
            return at(fails, step) >= at(limit, step);
        }

        int brokenSteps() {
            int broken = 0;
            for (int step = 0; step < stepCount; step++) {
                if (isBroken(step)) {
                    broken |= 1 << step;
                }
            }
            return broken;
        }

        int sumOfFails() {
            int sum = 0;
            for (int step = 0; step < stepCount; step++) {
                sum += at(fails, step);
            }
            return sum;
        }

        int riskOf(int set) {
            int sum = 0;
            for (int step = 0; step < stepCount; step++) {
                if ((set >>> step & 1) != 0) {
                    sum += at(risk, step);
                }
            }
            return sum;
        }

        int stepsToTry(int[] stock) {
            int steps = 0;
            for (int step = 0; step < stepCount; step++) {
                if (hindrance(step, stock) == CAN_BE_TRIED) {
                    steps |= 1 << step;
                }
            }
            return steps;
        }

        int hindrance(int step, int[] stock) {
            return status == OPEN ? hindranceBehind(done, step, stock, 0) : QUEST_NOT_OPEN;
        }

        /** The stock of item 0 stands at the index from. */
        int hindranceBehind(int set, int step, int[] stocks, int from) {
            if ((set >>> step & 1) != 0) {
                return STEP_DONE;
            }
            if (isBroken(step)) {
                return STEP_BROKEN;
            }
            if ((at(ahead, step) & ~set) != 0) {
                return STEP_TOO_EARLY;
            }
            for (int item = 0; item < ITEMS; item++) {
                int cell = step * ITEMS + item;
                if (at(stocks, from + item) < Math.max(at(uses, cell), at(needs, cell))) {
                    return ITEM_LACKING;
                }
            }
            return CAN_BE_TRIED;
        }

        boolean canStillHold() {
            int dead = 0;
            // Only steps told before can be ahead of a step, so one pass finds all.
            for (int step = 0; step < stepCount; step++) {
                if (!isDone(step) && (isBroken(step) || (at(ahead, step) & dead) != 0)) {
                    dead |= 1 << step;
                }
            }
            return goalHolds(SETS - 1 & ~dead);
        }
    }

    /** The latest states ahead of a change, in rows that are used again and again. */
    private static final class History {
        private final Ledger[] past = new Ledger[UNDOABLE];
        private int next = 0;
        int count = 0;

        History() {
            for (int k = 0; k < UNDOABLE; k++) {
                past[k] = new Ledger();
            }
        }

        void remember(Ledger ledger) {
            if (next >= 0 && next < UNDOABLE) {
                past[next].copyFrom(ledger);
            }
            next = (next + 1) % UNDOABLE;
            count = Math.min(count + 1, UNDOABLE);
        }

        boolean recall(Ledger ledger) {
            if (count <= 0) {
                return false;
            }
            next = (next + UNDOABLE - 1) % UNDOABLE;
            count--;
            if (next >= 0 && next < UNDOABLE) {
                ledger.copyFrom(past[next]);
            }
            return true;
        }
    }

    /**
     * What can be reached in a quest if each step that is tried succeeds. The stock behind some
     * steps does not depend on their order, so it is enough to look at each set of steps once.
     */
    private static final class Ways {
        private static final int NO_WAY = 99;

        private final int[] stocks = new int[SETS * ITEMS];
        private final int[] stepsToTry = new int[SETS];
        private final int[] toGo = new int[SETS];
        private long reached = 0;

        /** Tells whether there is a way. */
        boolean explore(Quest quest, int[] stock) {
            reached = 0;
            Arrays.fill(stepsToTry, 0);
            Arrays.fill(toGo, NO_WAY);
            if (quest.status != OPEN) {
                return false;
            }
            for (int item = 0; item < ITEMS; item++) {
                put(stocks, quest.done * ITEMS + item, at(stock, item));
            }
            reached = 1L << quest.done;
            goForward(quest);
            measureBackward(quest);
            return at(toGo, quest.done) < NO_WAY;
        }

        /** A step makes a set greater, so all that leads to a set is known when it is its turn. */
        private void goForward(Quest quest) {
            for (int set = 0; set < SETS; set++) {
                if (isReached(set) && !quest.goalHolds(set)) {
                    for (int step = 0; step < quest.stepCount; step++) {
                        if (quest.hindranceBehind(set, step, stocks, set * ITEMS) == CAN_BE_TRIED) {
                            reach(quest, set, step);
                        }
                    }
                }
            }
        }

        private void reach(Quest quest, int set, int step) {
            int behind = set | 1 << step;
            for (int item = 0; item < ITEMS; item++) {
                int cell = step * ITEMS + item;
                int rest = at(stocks, set * ITEMS + item) - at(quest.uses, cell) + at(quest.gives, cell);
                put(stocks, behind * ITEMS + item, rest);
            }
            put(stepsToTry, set, at(stepsToTry, set) | 1 << step);
            reached |= 1L << behind;
        }

        private void measureBackward(Quest quest) {
            for (int set = SETS - 1; set >= 0; set--) {
                if (isReached(set)) {
                    toGo[set] = quest.goalHolds(set) ? 0 : leastToGo(set);
                }
            }
        }

        private int leastToGo(int set) {
            int least = NO_WAY;
            for (int step = 0; step < STEPS; step++) {
                if ((at(stepsToTry, set) >>> step & 1) != 0) {
                    least = Math.min(least, at(toGo, set | 1 << step) + 1);
                }
            }
            return least;
        }

        private boolean isReached(int set) {
            return (reached >>> set & 1L) != 0;
        }

        int lengthOfPlan(Quest quest) {
            int length = at(toGo, quest.done);
            return length < NO_WAY ? length : -1;
        }

        /** The smallest step that leads on along a shortest way; asked only where the plan goes on. */
        int nextOfPlan(int set) {
            for (int step = 0; step < STEPS; step++) {
                boolean canBeTried = (at(stepsToTry, set) >>> step & 1) != 0;
                if (canBeTried && at(toGo, set | 1 << step) == at(toGo, set) - 1) {
                    return step;
                }
            }
            return 0;
        }

        int setBehindPlan(Quest quest, int steps) {
            int set = quest.done;
            for (int passed = 0; passed < steps; passed++) {
                set |= 1 << nextOfPlan(set);
            }
            return set;
        }

        int riskOfPlan(Quest quest) {
            return quest.riskOf(setBehindPlan(quest, lengthOfPlan(quest)) & ~quest.done);
        }

        int smallestRisk(Quest quest) {
            int smallest = -1;
            for (int set = 0; set < SETS; set++) {
                if (isReached(set) && quest.goalHolds(set)) {
                    int risk = quest.riskOf(set & ~quest.done);
                    smallest = smallest < 0 ? risk : Math.min(smallest, risk);
                }
            }
            return smallest;
        }

        int countEndings(Quest quest) {
            return Long.bitCount(reached & quest.goal);
        }
    }

    /** Works out worth code, in which what an operation joins stands ahead of it. */
    private static final class WorthMeter {
        /** Two open operations for each of the sums that can be inside each other, and one number more. */
        private final int[] stack = new int[2 * (NESTED + 1) + 1];
        private int height = 0;
        private final int[] seen = new int[6];

        void see(int code, int value) {
            put(seen, -1 - code, value);
        }

        int measure(int[] code, int length) {
            height = 0;
            for (int k = 0; k < length; k++) {
                int next = at(code, k);
                if (next >= 0) {
                    push(next);
                } else if (next >= QUEST_CODE) {
                    push(at(seen, -1 - next));
                } else {
                    int right = pop();
                    int left = pop();
                    push(join(left, next, right));
                }
            }
            return pop();
        }

        private void push(int value) {
            put(stack, height, value);
            height++;
        }

        private int pop() {
            height--;
            return at(stack, height);
        }

        private static int join(int left, int operation, int right) {
            long result;
            if (operation == PLUS_CODE) {
                result = (long) left + right;
            } else if (operation == MINUS_CODE) {
                result = (long) left - right;
            } else if (operation == TIMES_CODE) {
                result = (long) left * right;
            } else {
                result = right == 0 ? 0 : (long) left / right;
            }
            return (int) Math.max(-MOST_WORTH, Math.min(MOST_WORTH, result));
        }
    }

    private enum Token {
        NUMBER("", 0), END("", 0), UNKNOWN("", 0), NOTHING("", 0),
        LEDGER("ledger", 0), STOCK("stock", 0), SEED("seed", 0), WORTH("worth", 0),
        QUEST("quest", QUEST_CODE), STEP("step", 0), GOAL("goal", 0),
        USES("uses", 0), NEEDS("needs", 0), GIVES("gives", 0), AFTER("after", 0), COSTLY("costly", 0),
        OR("or", 0), AND("and", 0), OF("of", 0),
        LENGTH("length", LENGTH_CODE), RISK("risk", RISK_CODE), DONE("done", DONE_CODE),
        FAILS("fails", FAILS_CODE), REWARD("reward", REWARD_CODE),
        SEMICOLON(";", 0), COMMA(",", 0), LEFT("(", 0), RIGHT(")", 0),
        PLUS("+", PLUS_CODE), MINUS("-", MINUS_CODE), TIMES("*", TIMES_CODE), OVER("/", OVER_CODE);

        private final String text;
        /** What stands for it in worth code; 0 if it has no place there. */
        final int code;

        Token(String text, int code) {
            this.text = text;
            this.code = code;
        }

        boolean stands(int[] bytes, int from, int to) {
            if (text.length() != to - from) {
                return false;
            }
            for (int k = 0; k < text.length(); k++) {
                if (text.charAt(k) != at(bytes, from + k)) {
                    return false;
                }
            }
            return true;
        }

        boolean beginsPart() {
            return this == USES || this == NEEDS || this == GIVES || this == AFTER || this == COSTLY;
        }

        boolean isVariable() {
            return code < 0 && code >= QUEST_CODE;
        }
    }

    /** The text as tokens, and the place in it; behind an error there is nothing ahead any more. */
    private static final class Tokens {
        private static final int SPACE = 0;
        private static final int DIGIT = 1;
        private static final int LETTER = 2;
        private static final int OTHER = 3;

        private final Token[] kinds = new Token[BUFFER + 1];
        private final int[] starts = new int[BUFFER + 1];
        private final int[] numbers = new int[BUFFER + 1];
        private int count = 0;
        private int place = 0;
        private int error = 0;
        private int errorOffset = -1;

        void scan(int[] bytes, int length) {
            count = 0;
            place = 0;
            error = 0;
            errorOffset = -1;
            for (int k = 0; k < length; k++) {
                int kind = kindOf(at(bytes, k));
                if (kind != SPACE && !(k > 0 && goesOn(kind, at(bytes, k - 1)))) {
                    note(bytes, k, endOfRun(bytes, k, length), kind);
                }
            }
            note(bytes, length, length, OTHER);
        }

        private static int kindOf(int value) {
            if (value == ' ') {
                return SPACE;
            }
            if (value >= '0' && value <= '9') {
                return DIGIT;
            }
            return value >= 'a' && value <= 'z' ? LETTER : OTHER;
        }

        private static boolean goesOn(int kind, int neighbour) {
            return kind != OTHER && kind == kindOf(neighbour);
        }

        private static int endOfRun(int[] bytes, int from, int length) {
            int kind = kindOf(at(bytes, from));
            for (int k = from + 1; k < length; k++) {
                if (!goesOn(kind, at(bytes, k))) {
                    return k;
                }
            }
            return length;
        }

        private void note(int[] bytes, int from, int to, int kind) {
            if (count < 0 || count > BUFFER) {
                return;
            }
            if (from == to) {
                kinds[count] = Token.END;
            } else {
                kinds[count] = kind == DIGIT ? Token.NUMBER : tokenAt(bytes, from, to);
            }
            starts[count] = from;
            numbers[count] = kind == DIGIT ? numberAt(bytes, from, to) : 0;
            count++;
        }

        private static Token tokenAt(int[] bytes, int from, int to) {
            for (int k = 0; k < TOKENS.length; k++) {
                if (TOKENS[k].stands(bytes, from, to)) {
                    return TOKENS[k];
                }
            }
            return Token.UNKNOWN;
        }

        private static int numberAt(int[] bytes, int from, int to) {
            int number = 0;
            for (int k = from; k < to; k++) {
                number = Math.min(HUGE, number * 10 + at(bytes, k) - '0');
            }
            return number;
        }

        Token ahead() {
            if (error != 0 || place < 0 || place >= count || place > BUFFER) {
                return Token.NOTHING;
            }
            return kinds[place];
        }

        boolean goOn() {
            return ahead() != Token.NOTHING && ahead() != Token.END;
        }

        /** The offset of what is ahead. */
        int start() {
            return place >= 0 && place <= BUFFER ? starts[place] : 0;
        }

        void skip() {
            place++;
        }

        boolean take(Token wanted) {
            if (ahead() != wanted) {
                return false;
            }
            place++;
            return true;
        }

        void expect(Token wanted) {
            if (ahead() == wanted) {
                place++;
            } else {
                fail(SYNTAX_ERROR, start());
            }
        }

        /** Tells whether a parenthesis inside so many others could be opened. */
        boolean open(int depth) {
            if (ahead() != Token.LEFT) {
                fail(SYNTAX_ERROR, start());
            } else if (depth >= NESTED) {
                fail(TOO_DEEP, start());
            }
            place++;
            return error == 0;
        }

        int number(int least, int most) {
            int offset = start();
            if (ahead() != Token.NUMBER) {
                fail(SYNTAX_ERROR, offset);
                return least;
            }
            int number = at(numbers, place);
            place++;
            if (number < least || number > most) {
                fail(OUT_OF_RANGE, offset);
                return least;
            }
            return number;
        }

        /** The text is read from its first byte on, so the error that is told first is the first one. */
        void fail(int code, int offset) {
            if (error == 0) {
                error = code;
                errorOffset = offset;
            }
        }
    }

    private static final class SetupReader {
        private final Tokens tokens = new Tokens();
        private final GoalReader goals = new GoalReader();
        private final WorthReader worths = new WorthReader();
        private int stockTold = 0;
        private boolean seedTold = false;
        private boolean worthTold = false;

        int offsetOfError() {
            return tokens.errorOffset;
        }

        int read(int[] bytes, int length, Ledger into) {
            tokens.scan(bytes, length);
            begin(into);
            tokens.expect(Token.LEDGER);
            tokens.expect(Token.SEMICOLON);
            for (int n = 0; n < BUFFER && tokens.goOn(); n++) {
                Token word = tokens.ahead();
                if (word == Token.STOCK) {
                    readStock(into);
                } else if (word == Token.SEED && !seedTold) {
                    readSeed(into);
                } else if (word == Token.WORTH && !worthTold) {
                    readWorth(into);
                } else if (word == Token.QUEST) {
                    readQuest(into);
                } else {
                    tokens.fail(SYNTAX_ERROR, tokens.start());
                }
            }
            return tokens.error;
        }

        private void begin(Ledger into) {
            into.clear();
            // Without a worth statement the worth is the amount of the reward.
            into.appendCode(REWARD_CODE);
            stockTold = 0;
            seedTold = false;
            worthTold = false;
        }

        private void readStock(Ledger into) {
            tokens.skip();
            for (int n = 0; n < BUFFER && (n == 0 || tokens.ahead() == Token.NUMBER); n++) {
                int offset = tokens.start();
                int item = tokens.number(0, ITEMS - 1);
                if ((stockTold >>> item & 1) != 0) {
                    tokens.fail(REPEATED, offset);
                }
                stockTold |= 1 << item;
                put(into.stock, item, tokens.number(0, MOST_CHANGED));
            }
            tokens.expect(Token.SEMICOLON);
        }

        private void readSeed(Ledger into) {
            tokens.skip();
            into.seed = tokens.number(0, MOST_TOLD);
            tokens.expect(Token.SEMICOLON);
            seedTold = true;
        }

        private void readWorth(Ledger into) {
            tokens.skip();
            into.worthLength = 0;
            worths.readSum(tokens, into, 0);
            tokens.expect(Token.SEMICOLON);
            worthTold = true;
        }

        private void readQuest(Ledger into) {
            int index = into.questCount;
            if (index < 0 || index >= QUESTS) {
                tokens.fail(TOO_MANY, tokens.start());
                return;
            }
            Quest quest = into.quests[index];
            quest.clear();
            tokens.skip();
            quest.rewardItem = tokens.number(0, ITEMS - 1);
            quest.rewardAmount = tokens.number(0, MOST_AMOUNT);
            tokens.expect(Token.SEMICOLON);
            for (int n = 0; n < BUFFER && (n == 0 || tokens.ahead() == Token.STEP); n++) {
                readStep(quest);
            }
            tokens.expect(Token.GOAL);
            quest.goal = goals.readGoal(tokens, quest.stepCount, 0);
            tokens.expect(Token.SEMICOLON);
            into.questCount++;
        }

        private void readStep(Quest quest) {
            int step = quest.stepCount;
            if (step >= STEPS) {
                tokens.fail(TOO_MANY, tokens.start());
                return;
            }
            tokens.expect(Token.STEP);
            put(quest.risk, step, tokens.number(0, 100));
            put(quest.limit, step, tokens.number(1, 9));
            for (int n = 0; n < BUFFER && tokens.ahead().beginsPart(); n++) {
                readPart(quest, step);
            }
            tokens.expect(Token.SEMICOLON);
            quest.stepCount++;
        }

        private void readPart(Quest quest, int step) {
            int offset = tokens.start();
            if (tokens.take(Token.USES)) {
                readAmounts(quest.uses, step);
            } else if (tokens.take(Token.NEEDS)) {
                readAmounts(quest.needs, step);
            } else if (tokens.take(Token.GIVES)) {
                readAmounts(quest.gives, step);
            } else if (tokens.take(Token.AFTER)) {
                readAhead(quest.ahead, step);
            } else {
                tokens.expect(Token.COSTLY);
                if (at(quest.costly, step) == 1) {
                    tokens.fail(SYNTAX_ERROR, offset);
                }
                put(quest.costly, step, 1);
            }
        }

        private void readAmounts(int[] amounts, int step) {
            for (int n = 0; n < BUFFER && (n == 0 || tokens.ahead() == Token.NUMBER); n++) {
                int offset = tokens.start();
                int cell = step * ITEMS + tokens.number(0, ITEMS - 1);
                if (at(amounts, cell) > 0) {
                    tokens.fail(REPEATED, offset);
                }
                put(amounts, cell, tokens.number(1, MOST_AMOUNT));
            }
        }

        private void readAhead(int[] ahead, int step) {
            for (int n = 0; n < BUFFER && (n == 0 || tokens.ahead() == Token.NUMBER); n++) {
                int offset = tokens.start();
                int earlier = tokens.number(0, step - 1);
                if ((at(ahead, step) >>> earlier & 1) != 0) {
                    tokens.fail(REPEATED, offset);
                }
                put(ahead, step, at(ahead, step) | 1 << earlier);
            }
        }
    }

    /** A goal is read into the row of its answers: bit s tells whether it holds with the set s. */
    private static final class GoalReader {
        private static final int COUNTS = STEPS + 1;

        /** For each depth, and each n from 0, with which sets at least n of the goals hold. */
        private final long[] atLeast = new long[NESTED * COUNTS];

        private long readGoal(Tokens tokens, int steps, int depth) {
            long any = 0;
            long all = readSingle(tokens, steps, depth);
            for (int n = 0; n < BUFFER; n++) {
                if (tokens.take(Token.AND)) {
                    all &= readSingle(tokens, steps, depth);
                } else if (tokens.take(Token.OR)) {
                    any |= all;
                    all = readSingle(tokens, steps, depth);
                } else {
                    return any | all;
                }
            }
            return any | all;
        }

        private long readSingle(Tokens tokens, int steps, int depth) {
            if (tokens.ahead() != Token.NUMBER) {
                return readGroup(tokens, steps, depth, 1, 1);
            }
            int offset = tokens.start();
            int number = tokens.number(0, HUGE);
            if (tokens.take(Token.OF)) {
                if (number < 1 || number > STEPS) {
                    tokens.fail(OUT_OF_RANGE, offset);
                }
                return readGroup(tokens, steps, depth, number, BUFFER);
            }
            if (number < 0 || number >= steps || number >= SETS_WITH.length) {
                tokens.fail(OUT_OF_RANGE, offset);
                return 0;
            }
            return SETS_WITH[number];
        }

        /** Reads at most so many goals in parentheses, of which at least the wanted ones are to hold. */
        private long readGroup(Tokens tokens, int steps, int depth, int wanted, int most) {
            if (!tokens.open(depth)) {
                return 0;
            }
            for (int k = 0; k < COUNTS; k++) {
                putTally(depth, k, k == 0 ? -1L : 0L);
            }
            tally(depth, readGoal(tokens, steps, depth + 1));
            for (int n = 1; n < most && tokens.take(Token.COMMA); n++) {
                tally(depth, readGoal(tokens, steps, depth + 1));
            }
            tokens.expect(Token.RIGHT);
            return tallied(depth, wanted);
        }

        private void tally(int depth, long goal) {
            for (int k = COUNTS - 1; k > 0; k--) {
                putTally(depth, k, tallied(depth, k) | tallied(depth, k - 1) & goal);
            }
        }

        private long tallied(int depth, int count) {
            int index = depth * COUNTS + count;
            return index >= 0 && index < atLeast.length ? atLeast[index] : 0;
        }

        private void putTally(int depth, int count, long sets) {
            int index = depth * COUNTS + count;
            if (index >= 0 && index < atLeast.length) {
                atLeast[index] = sets;
            }
        }
    }

    /** A sum is read into worth code. */
    private static final class WorthReader {
        private void readSum(Tokens tokens, Ledger into, int depth) {
            readTerm(tokens, into, depth);
            for (int n = 0; n < BUFFER; n++) {
                Token sign = tokens.ahead();
                if (sign != Token.PLUS && sign != Token.MINUS) {
                    return;
                }
                tokens.skip();
                readTerm(tokens, into, depth);
                into.appendCode(sign.code);
            }
        }

        private void readTerm(Tokens tokens, Ledger into, int depth) {
            readFactor(tokens, into, depth);
            for (int n = 0; n < BUFFER; n++) {
                Token sign = tokens.ahead();
                if (sign != Token.TIMES && sign != Token.OVER) {
                    return;
                }
                tokens.skip();
                readFactor(tokens, into, depth);
                into.appendCode(sign.code);
            }
        }

        private void readFactor(Tokens tokens, Ledger into, int depth) {
            Token first = tokens.ahead();
            if (first == Token.NUMBER) {
                into.appendCode(tokens.number(0, MOST_TOLD));
            } else if (first.isVariable()) {
                into.appendCode(first.code);
                tokens.skip();
            } else if (tokens.open(depth)) {
                readSum(tokens, into, depth + 1);
                tokens.expect(Token.RIGHT);
            }
        }
    }
}
