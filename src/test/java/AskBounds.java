import java.util.function.BiFunction;
import java.util.function.IntFunction;

/** The sentences of promises 5 to 11 and 22 that name a boundary. */
final class AskBounds {
    private static final String SIX = "6 of (0,1,2,3,4,5)";
    private static final String NO_QUEST = "Throws `IndexOutOfBoundsException` if there is no such quest";
    private static final String NO_STEP = "Throws `IndexOutOfBoundsException` if there is no such quest or step";
    private static final String WHAT = "Throws `IllegalArgumentException` if what is out of range";
    /** Six quests of one to six steps. */
    private static final String[] STAIRS = {Setup.quest("0", "0 1"), Setup.quest("0", Setup.times(2, "0 1")), Setup.quest("0", Setup.times(3, "0 1")),
        Setup.quest("0", Setup.times(4, "0 1")), Setup.quest("0", Setup.times(5, "0 1")), Setup.quest("0", Setup.times(6, "0 1"))};

    private AskBounds() {
    }

    static void all() {
        state();
        stock();
        quest();
        step();
        amount();
        why();
        holds();
        progress();
    }

    /** The call is answered for the quests that there are, and for no other one; any call may be made ready ahead. */
    static void noSuchQuest(BiFunction<QuestLedger, Integer, Object> call) {
        for (int count = 0; count <= 6; count++) {
            StringBuilder quests = new StringBuilder();
            for (int k = 0; k < count; k++) {
                quests.append(STAIRS[5 - k]);
            }
            QuestLedger x = count == 0 ? new QuestLedger() : Setup.of(quests.toString());
            Setup.beside("quest of " + count, 0, count - 1, Check.INDEX, quest -> call.apply(x, quest));
            Check.due("quest 6 of " + count, Check.INDEX, () -> call.apply(x, 6));
            for (int k = 0; k < count; k++) {
                int quest = k;
                Check.due("quest " + k + " of " + count + " is there", false, () -> Check.INDEX.equals(Check.answerOf(() -> call.apply(x, quest))));
            }
        }
        QuestLedger y = Setup.of(STAIRS);
        Check.load(y, "ledger;" + STAIRS[0]);
        Check.due("a quest of an older text", Check.INDEX, () -> call.apply(y, 1));
    }

    interface StepCall {
        Object answer(QuestLedger ledger, int quest, int step);
    }

    /** The call is answered for the steps that a quest has, and for no other one. */
    static void noSuchStep(StepCall call) {
        noSuchQuest((x, quest) -> call.answer(x, quest, 0));
        for (int q = 0; q < 6; q++) {
            int quest = q;
            QuestLedger x = Setup.of(STAIRS);
            Setup.beside("step of " + (q + 1), 0, q, Check.INDEX, step -> call.answer(x, quest, step));
            Check.due("step 6 of " + (q + 1), Check.INDEX, () -> call.answer(x, quest, 6));
            for (int s = 0; s <= q; s++) {
                int step = s;
                Check.due("step " + s + " of " + (q + 1) + " is there", false,
                    () -> Check.INDEX.equals(Check.answerOf(() -> call.answer(x, quest, step))));
            }
            Setup.beside("step of no quest", 0, 5, Check.INDEX, step -> call.answer(x, 6, step));
            Setup.beside("step of quest -1", 0, 5, Check.INDEX, step -> call.answer(x, -1, step));
        }
        QuestLedger y = Setup.of(STAIRS[5]);
        Check.load(y, "ledger;" + STAIRS[1]);
        Check.due("a step of an older text", Check.INDEX, () -> call.answer(y, 0, 2));
    }

    static void noSuchItem(IntFunction<Object> call) {
        Setup.range("item", 0, 7, Check.INDEX, call::apply);
    }

    private static void state() {
        String section = "Promise 5";
        Sentence.test(section, "`what`: 0 quests, 1 steps of all quests, 2 quests that are done, 3 quests that are lost, 4 steps that are done, "
            + "5 fails of all steps, 6 numbers in the queue, 7 the seed, 8 quests that are possible", AskBounds::states);
        Sentence.test(section, WHAT, () -> {
            Setup.range("what", 0, 8, Check.ARGUMENT, new QuestLedger()::state);
            Setup.range("what", 0, 8, Check.ARGUMENT, Setup.of(STAIRS)::state);
        });
    }

    private static void stateIs(String what, QuestLedger x, int... due) {
        for (int k = 0; k < due.length; k++) {
            int asked = k;
            Check.due(what + ": state " + k, due[k], () -> x.state(asked));
        }
    }

    /** From nothing at all to the most that there can be of each number. */
    private static void states() {
        stateIs("new", new QuestLedger(), 0, 0, 0, 0, 0, 0, 0, 0, 0);
        stateIs("no quests", Setup.of("seed 9999;"), 0, 0, 0, 0, 0, 0, 0, 9999, 0);
        stateIs("stairs", Setup.of(STAIRS), 6, 21, 0, 0, 0, 0, 0, 0, 6);
        QuestLedger x = Setup.of(Setup.quest(SIX, Setup.times(6, "50 9")).repeat(4));
        stateIs("four quests", x, 4, 24, 0, 0, 0, 0, 0, 0, 4);
        String full = Setup.quest("0 and 1 and 2 and 3 and 4 and 5", Setup.times(6, "0 1"));
        QuestLedger y = Setup.of(full.repeat(6));
        stateIs("36 steps", y, 6, 36, 0, 0, 0, 0, 0, 0, 6);
        for (int quest = 0; quest < 6; quest++) {
            y.play(quest);
        }
        int seed = y.state(7);
        stateIs("all done", y, 6, 36, 6, 0, 36, 0, 0, seed, 0);
        QuestLedger z = Setup.of(Setup.quest("1 of (0,1,2,3,4,5)", Setup.times(6, "100 9")).repeat(6));
        for (int n = 0; n < 20; n++) {
            z.tell(0, 0);
        }
        stateIs("a full queue", z, 6, 36, 0, 0, 0, 0, 40, 0, 6);
        for (int quest = 0; quest < 6; quest++) {
            z.play(quest);
        }
        int later = z.state(7);
        stateIs("all lost", z, 6, 36, 0, 6, 0, 6 * 54, 0, later, 0);
        Check.due("the seed is below 0 once", true, () -> {
            boolean below = false;
            for (int n = 0; n < 9; n++) {
                z.reopen(0);
                z.attempt(0, 0);
                below |= z.state(7) < 0;
            }
            return below;
        });
    }

    private static void stock() {
        Sentence.test("Promise 6", "Throws `IndexOutOfBoundsException` if there is no such item", () -> {
            noSuchItem(new QuestLedger()::stock);
            noSuchItem(Setup.of("stock 0 1 7 2;")::stock);
        });
    }

    private static void quest() {
        String section = "Promise 7";
        Sentence.test(section, "`what`: 0 its steps, 1 0 if it is open, 1 if it is done, 2 if it is lost, 2 the set of its steps that are done, 3 that of its "
            + "broken ones, 4 the item of its reward, 5 the amount, 6 the sum of the fails of its steps, 7 the set of its steps that can be tried",
            AskBounds::quests);
        Sentence.test(section, NO_QUEST, () -> noSuchQuest((x, quest) -> x.quest(quest, 0)));
        Sentence.test(section, WHAT, () -> Setup.range("what", 0, 7, Check.ARGUMENT, what -> Setup.of(STAIRS).quest(5, what)));
    }

    private static void questIs(String what, QuestLedger x, int quest, int... due) {
        for (int k = 0; k < due.length; k++) {
            int asked = k;
            Check.due(what + ": what " + k, due[k], () -> x.quest(quest, asked));
        }
    }

    private static void quests() {
        QuestLedger x = Setup.of(Setup.rewarded(7, 99, SIX, Setup.times(6, "50 9")), Setup.rewarded(0, 0, "0", "0 1 needs 0 1"));
        questIs("open", x, 0, 6, 0, 0, 0, 7, 99, 0, 63);
        questIs("nothing can be tried", x, 1, 1, 0, 0, 0, 0, 0, 0, 0);
        x.tell(49, 50);
        x.attempt(0, 0);
        x.attempt(0, 5);
        questIs("a fail and a success", x, 0, 6, 0, 32, 0, 7, 99, 1, 31);
        x.giveUp(0);
        questIs("lost", x, 0, 6, 2, 32, 0, 7, 99, 1, 0);
        QuestLedger y = Setup.of(Setup.quest("0 and 1 and 2 and 3 and 4 and 5", Setup.times(6, "0 1")), Setup.quest("1 of (0,1,2,3,4,5)", Setup.times(6, "100 9")));
        y.play(0);
        y.play(1);
        questIs("done", y, 0, 6, 1, 63, 0, 0, 0, 0, 0);
        questIs("all broken", y, 1, 6, 2, 0, 63, 0, 0, 54, 0);
    }

    private static void step() {
        String section = "Promise 8";
        Sentence.test(section, "`what`: 0 its risk, 1 its limit, 2 its fails, 3 1 if it is done, otherwise 0, 4 the set of steps that must be done ahead of "
            + "it, 5 1 if it is costly, otherwise 0", AskBounds::steps);
        Sentence.test(section, NO_STEP, () -> noSuchStep((x, quest, step) -> x.step(quest, step, 0)));
        Sentence.test(section, WHAT, () -> Setup.range("what", 0, 5, Check.ARGUMENT, what -> Setup.of(STAIRS).step(5, 5, what)));
    }

    private static void steps() {
        QuestLedger x = Setup.of(Setup.quest("0 or 1", "0 1", "0 1", "0 1", "0 1", "100 9 costly", "0 1 after 0 1 2 3 4"));
        int[][] due = {{0, 1, 0, 0, 0, 0}, {0, 1, 0, 0, 0, 0}, {0, 1, 0, 0, 0, 0}, {0, 1, 0, 0, 0, 0}, {100, 9, 9, 0, 0, 1}, {0, 1, 0, 0, 31, 0}};
        for (int n = 0; n < 9; n++) {
            x.attempt(0, 4);
        }
        for (int s = 0; s < 6; s++) {
            for (int what = 0; what < 6; what++) {
                int step = s;
                int asked = what;
                Check.due("step " + s + " what " + what, due[s][what], () -> x.step(0, step, asked));
            }
        }
        x.attempt(0, 0);
        Check.due("done", "1 0", () -> x.step(0, 0, 3) + " " + x.step(0, 1, 3));
    }

    private static void amount() {
        String section = "Promise 9";
        Sentence.test(section, "`what`: 0 how much of the item it uses, 1 needs, 2 gives", AskBounds::amounts);
        Sentence.test(section, "Throws `IndexOutOfBoundsException` if there is no such quest, step or item", () -> {
            noSuchStep((x, quest, step) -> x.amount(quest, step, 0, 0));
            noSuchItem(item -> Setup.of(STAIRS).amount(5, 5, item, 2));
        });
        Sentence.test(section, WHAT, () -> Setup.range("what", 0, 2, Check.ARGUMENT, what -> Setup.of(STAIRS).amount(5, 5, 7, what)));
    }

    private static void amounts() {
        QuestLedger x = Setup.of(Setup.quest("0", "0 1 uses 0 1 7 99 needs 0 2 7 98 gives 0 3 7 97", "0 1", "0 1", "0 1", "0 1", "0 1 uses 7 9 needs 7 8 gives 7 7"),
            Setup.quest("0", "0 1"));
        int[][] first = {{1, 2, 3}, {99, 98, 97}, {9, 8, 7}};
        for (int what = 0; what < 3; what++) {
            int asked = what;
            Check.due("the first item, what " + what, first[0][what], () -> x.amount(0, 0, 0, asked));
            Check.due("the last item, what " + what, first[1][what], () -> x.amount(0, 0, 7, asked));
            Check.due("the last step, what " + what, first[2][what], () -> x.amount(0, 5, 7, asked));
            for (int item = 0; item < 8; item++) {
                int other = item;
                Check.due("a step without amounts, what " + what, 0, () -> x.amount(0, 1, other, asked));
                Check.due("a quest without amounts, what " + what, 0, () -> x.amount(1, 0, other, asked));
            }
        }
    }

    private static void why() {
        String section = "Promise 10";
        Sentence.test(section, "Returns 0 if it can be tried, 1 if the quest is not open, 2 if the step is done, 3 if it is broken, 4 if a step that must be "
            + "done ahead of it is not done, 5 if an item is lacking: the first of these.", AskBounds::firstReason);
        Sentence.test(section, NO_STEP, () -> noSuchStep((x, quest, step) -> x.why(quest, step)));
    }

    /** Each reason but one hides the later ones. */
    private static void firstReason() {
        QuestLedger x = Setup.of("stock 0 1 1 1;", Setup.quest("1 and 0", "100 1 uses 0 1 costly", "0 1 uses 1 1", "0 1 after 0 1 uses 2 1", "0 1 uses 2 1", "0 1"));
        int[] first = {0, 0, 4, 5, 0};
        whyIs("first", x, first);
        x.attempt(0, 1);
        whyIs("1 is done, and its item away", x, 0, 2, 4, 5, 0);
        Check.due("0 fails", 3, () -> x.attempt(0, 0));
        whyIs("the quest is lost", x, 1, 1, 1, 1, 1);
        QuestLedger y = Setup.of("stock 0 1;", Setup.quest("1", "100 1 uses 0 1 costly", "0 1", "100 1 after 1 uses 0 1", "0 1 after 0"));
        y.attempt(0, 0);
        whyIs("0 is broken, and its item away", y, 3, 0, 4, 4);
        y.add(0, 1);
        whyIs("0 is broken", y, 3, 0, 4, 4);
        y.attempt(0, 1);
        whyIs("the quest is done", y, 1, 1, 1, 1);
        QuestLedger z = Setup.of(Setup.quest("2", "0 1", "100 1 after 0", "0 1 after 0"));
        z.attempt(0, 0);
        z.attempt(0, 1);
        whyIs("what was ahead is done", z, 2, 3, 0);
        z.giveUp(0);
        whyIs("given up", z, 1, 1, 1);
    }

    private static void whyIs(String what, QuestLedger x, int... due) {
        for (int k = 0; k < due.length; k++) {
            int step = k;
            Check.due(what + ": step " + k, due[k], () -> x.why(0, step));
        }
    }

    private static void holds() {
        String section = "Promise 11";
        Sentence.test(section, "`steps`: a set of steps, 0 to 63", AskBounds::sets);
        Sentence.test(section, "(steps that the quest does not have do not matter)", AskBounds::otherSteps);
        Sentence.test(section, "Returns whether the goal would hold if just these steps were done.", AskBounds::justThese);
        Sentence.test(section, NO_QUEST, () -> noSuchQuest((x, quest) -> x.holds(quest, 63)));
        Sentence.test(section, "Throws `IllegalArgumentException` if steps is out of range",
            () -> Setup.range("steps", 0, 63, Check.ARGUMENT, steps -> Setup.of(STAIRS).holds(5, steps)));
    }

    private static void sets() {
        QuestLedger x = Setup.of(Setup.quest(SIX, Setup.times(6, "0 1")), Setup.quest("1 of (0,1,2,3,4,5)", Setup.times(6, "0 1")));
        for (int steps = 0; steps < 64; steps++) {
            int set = steps;
            Check.due("all of " + set, set == 63, () -> x.holds(0, set));
            Check.due("any of " + set, set != 0, () -> x.holds(1, set));
        }
    }

    private static void otherSteps() {
        QuestLedger x = Setup.of(Setup.quest("0", "0 1"), Setup.quest("0 and 1", "0 1", "0 1"));
        for (int steps = 0; steps < 64; steps++) {
            int set = steps;
            Check.due("one step, set " + set, set % 2 == 1, () -> x.holds(0, set));
            Check.due("two steps, set " + set, set % 4 == 3, () -> x.holds(1, set));
        }
    }

    private static void justThese() {
        QuestLedger x = Setup.of(Setup.quest("0 and 1", "0 1", "0 1 after 0 uses 0 9"), Setup.quest("0", "0 1"), Setup.quest("0", "0 1"));
        x.attempt(0, 0);
        x.attempt(1, 0);
        x.giveUp(2);
        Check.due("what is done already does not count", "false false false true",
            () -> x.holds(0, 0) + " " + x.holds(0, 1) + " " + x.holds(0, 2) + " " + x.holds(0, 3));
        Check.due("of a done quest", "false true", () -> x.holds(1, 0) + " " + x.holds(1, 1));
        Check.due("of a lost quest", "false true", () -> x.holds(2, 0) + " " + x.holds(2, 1));
    }

    private static void progress() {
        Sentence.test("Promise 22", "Returns the number of steps that are done divided by the number of all steps, both converted to float;",
            AskBounds::quotient);
        Sentence.test("Promise 22", "0 without steps.", () -> {
            Check.due("a new object", 0.0f, new QuestLedger()::progress);
            Check.due("no quests", 0.0f, Setup.of("stock 0 1;")::progress);
            QuestLedger x = Setup.of(STAIRS);
            x.play(0);
            Check.load(x, "ledger;");
            Check.due("no quests any more", 0.0f, x::progress);
        });
    }

    private static void quotient() {
        QuestLedger x = Setup.of(Setup.quest(SIX, Setup.times(6, "0 1")).repeat(6));
        Check.due("none", 0.0f, x::progress);
        for (int n = 1; n <= 36; n++) {
            x.attempt((n - 1) / 6, (n - 1) % 6);
            float due = (float) n / 36.0f;
            Check.due(n + " of 36", due, x::progress);
        }
        Check.due("all", 1.0f, x::progress);
        QuestLedger y = Setup.of(Setup.quest("0", "0 1"));
        Check.due("none of one", 0.0f, y::progress);
        y.attempt(0, 0);
        Check.due("one of one", 1.0f, y::progress);
    }
}
