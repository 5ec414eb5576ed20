/** Promises 5 to 11 and 22: state, stock, quest, step, amount, why, holds and progress. */
public final class AskTest {
    private static final String TEXT = "ledger;stock 0 5 1 2 7 999;seed 41;"
        + "quest 6 99;step 100 9 uses 0 2 1 3 needs 1 1 gives 7 99 costly;step 0 1 needs 0 5;step 30 2 after 1 0;"
        + "step 50 3 needs 0 6;goal 2 and (0 or 1);"
        + "quest 0 0;step 100 1 uses 0 1;step 0 2 gives 2 1;goal 2 of (0,1);";

    public static void main(String[] args) {
        state();
        stock();
        quest();
        step();
        amount();
        why();
        holds();
        progress();
        Check.end();
    }

    private static void state() {
        QuestLedger x = Check.loaded(TEXT);
        int[] due = {2, 6, 0, 0, 0, 0, 0, 41, 1};
        for (int what = 0; what < due.length; what++) {
            int asked = what;
            Check.due("state " + what, due[what], () -> x.state(asked));
        }
        for (int what : new int[] {-1, 9, Integer.MIN_VALUE, Integer.MAX_VALUE}) {
            Check.due("state " + what, Check.ARGUMENT, () -> x.state(what));
        }
        x.attempt(1, 1);
        x.tell(0, 0);
        x.attempt(0, 1);
        x.attempt(1, 0);
        Check.due("a fail of a broken step loses the quest", 1, () -> x.state(3));
        Check.due("steps done", 2, () -> x.state(4));
        Check.due("fails", 1, () -> x.state(5));
        Check.due("an empty queue", 0, () -> x.state(6));
        x.tell(9, 8);
        Check.due("numbers in the queue", 2, () -> x.state(6));
        QuestLedger y = Check.loaded("ledger;quest 0 0;step 0 1;goal 0;quest 0 0;step 0 1;goal 0;quest 0 0;step 0 1 uses 0 1;goal 0;");
        Check.due("possible quests", 2, () -> y.state(8));
        y.attempt(0, 0);
        Check.due("quests done", 1, () -> y.state(2));
        Check.due("possible quests that are left", 1, () -> y.state(8));
        y.giveUp(1);
        y.giveUp(2);
        Check.due("quests lost", 2, () -> y.state(3));
        Check.due("none possible", 0, () -> y.state(8));
    }

    private static void stock() {
        QuestLedger x = Check.loaded(TEXT);
        int[] due = {5, 2, 0, 0, 0, 0, 0, 999};
        for (int item = 0; item < 8; item++) {
            int asked = item;
            Check.due("stock " + item, due[item], () -> x.stock(asked));
        }
        for (int item : new int[] {-1, 8, Integer.MIN_VALUE, Integer.MAX_VALUE}) {
            Check.due("stock " + item, Check.INDEX, () -> x.stock(item));
        }
    }

    private static void quest() {
        QuestLedger x = Check.loaded(TEXT);
        int[][] due = {{4, 0, 0, 0, 6, 99, 0, 2}, {2, 0, 0, 0, 0, 0, 0, 3}};
        for (int q = 0; q < 2; q++) {
            for (int what = 0; what < 8; what++) {
                int quest = q;
                int asked = what;
                Check.due("quest " + q + " " + what, due[q][what], () -> x.quest(quest, asked));
            }
        }
        for (int what : new int[] {-1, 8, Integer.MIN_VALUE, Integer.MAX_VALUE}) {
            Check.due("quest 0 " + what, Check.ARGUMENT, () -> x.quest(0, what));
            Check.due("no quest " + what, Check.INDEX, () -> x.quest(2, what));
            Check.due("quest -1 " + what, Check.INDEX, () -> x.quest(-1, what));
        }
        x.add(1, 9);
        Check.due("uses and needs are there now", 3, () -> x.quest(0, 7));
        x.tell(99, 99);
        x.attempt(0, 0);
        x.attempt(0, 0);
        Check.due("two fails", 2, () -> x.quest(0, 6));
        Check.due("none broken", 0, () -> x.quest(0, 3));
        Check.due("costly", 1, () -> x.stock(0));
        x.attempt(1, 1);
        Check.due("the set of its steps that are done", 2, () -> x.quest(1, 2));
        Check.due("what is done can not be tried", 1, () -> x.quest(1, 7));
        x.attempt(1, 0);
        Check.due("lost", 2, () -> x.quest(1, 1));
        Check.due("broken", 1, () -> x.quest(1, 3));
        Check.due("nothing can be tried in a lost quest", 0, () -> x.quest(1, 7));
        QuestLedger y = Check.loaded("ledger;quest 0 0;step 100 1;step 0 1;step 100 1;step 0 1;goal 1;");
        y.attempt(0, 2);
        y.attempt(0, 0);
        Check.due("two broken ones", 5, () -> y.quest(0, 3));
        Check.due("the others can be tried", 10, () -> y.quest(0, 7));
    }

    private static void step() {
        QuestLedger x = Check.loaded(TEXT);
        int[][] due = {{100, 9, 0, 0, 0, 1}, {0, 1, 0, 0, 0, 0}, {30, 2, 0, 0, 3, 0}, {50, 3, 0, 0, 0, 0}};
        for (int s = 0; s < due.length; s++) {
            for (int what = 0; what < 6; what++) {
                int step = s;
                int asked = what;
                Check.due("step 0 " + s + " " + what, due[s][what], () -> x.step(0, step, asked));
            }
        }
        for (int what : new int[] {-1, 6, Integer.MIN_VALUE, Integer.MAX_VALUE}) {
            Check.due("step 0 0 " + what, Check.ARGUMENT, () -> x.step(0, 0, what));
            Check.due("step 0 4 " + what, Check.INDEX, () -> x.step(0, 4, what));
            Check.due("step 0 -1 " + what, Check.INDEX, () -> x.step(0, -1, what));
            Check.due("step 2 0 " + what, Check.INDEX, () -> x.step(2, 0, what));
            Check.due("step -1 0 " + what, Check.INDEX, () -> x.step(-1, 0, what));
        }
        Check.due("a step of another quest is none of this one", Check.INDEX, () -> x.step(1, 2, 0));
        x.attempt(0, 1);
        Check.due("done", 1, () -> x.step(0, 1, 3));
        x.attempt(1, 0);
        Check.due("fails", 1, () -> x.step(1, 0, 2));
    }

    private static void amount() {
        QuestLedger x = Check.loaded(TEXT);
        Check.due("uses", 2, () -> x.amount(0, 0, 0, 0));
        Check.due("uses a second item", 3, () -> x.amount(0, 0, 1, 0));
        Check.due("needs", 1, () -> x.amount(0, 0, 1, 1));
        Check.due("gives", 99, () -> x.amount(0, 0, 7, 2));
        Check.due("not told: uses", 0, () -> x.amount(0, 0, 7, 0));
        Check.due("not told: needs", 0, () -> x.amount(0, 0, 0, 1));
        Check.due("not told: gives", 0, () -> x.amount(0, 0, 0, 2));
        Check.due("step 1 needs", 5, () -> x.amount(0, 1, 0, 1));
        Check.due("quest 1", 1, () -> x.amount(1, 0, 0, 0));
        for (int what : new int[] {-1, 3, Integer.MIN_VALUE, Integer.MAX_VALUE}) {
            Check.due("amount what " + what, Check.ARGUMENT, () -> x.amount(0, 0, 0, what));
            Check.due("amount item 8 what " + what, Check.INDEX, () -> x.amount(0, 0, 8, what));
        }
        Check.due("no quest", Check.INDEX, () -> x.amount(2, 0, 0, 0));
        Check.due("no step", Check.INDEX, () -> x.amount(0, 4, 0, 0));
        Check.due("step -1", Check.INDEX, () -> x.amount(0, -1, 0, 0));
        Check.due("item -1", Check.INDEX, () -> x.amount(0, 1, -1, 0));
        Check.due("no item", Check.INDEX, () -> x.amount(0, 0, Integer.MAX_VALUE, 0));
    }

    private static void why() {
        QuestLedger x = Check.loaded("ledger;stock 0 3 1 3;quest 0 0;step 0 1 uses 0 3 needs 0 2;step 0 1 uses 0 2 needs 0 4;"
            + "step 0 1 uses 1 4;step 0 1 after 0 uses 7 1;step 100 2;step 0 1 after 4;goal 5;quest 0 0;step 100 1;goal 0 or 0;");
        int[] due = {0, 5, 5, 4, 0, 4};
        for (int s = 0; s < due.length; s++) {
            int step = s;
            Check.due("why " + s, due[s], () -> x.why(0, step));
        }
        x.attempt(0, 0);
        Check.due("done", 2, () -> x.why(0, 0));
        Check.due("what was ahead is done, an item is lacking", 5, () -> x.why(0, 3));
        x.attempt(0, 4);
        Check.due("failed once of two", 0, () -> x.why(0, 4));
        Check.due("not broken yet, but to be done ahead", 4, () -> x.why(0, 5));
        x.attempt(0, 4);
        Check.due("the quest is lost", 1, () -> x.why(0, 4));
        Check.due("the quest is lost, whatever the step", 1, () -> x.why(0, 0));
        Check.due("no quest", Check.INDEX, () -> x.why(2, 0));
        Check.due("no step", Check.INDEX, () -> x.why(1, 1));
        Check.due("step -1", Check.INDEX, () -> x.why(1, -1));
        QuestLedger y = Check.loaded("ledger;stock 0 1;quest 0 0;step 100 1 uses 0 1 costly;step 0 1;goal 1;");
        y.attempt(0, 0);
        Check.due("broken, and an item is lacking", 3, () -> y.why(0, 0));
        Check.due("another step goes on", 0, () -> y.why(0, 1));
        y.attempt(0, 1);
        Check.due("the quest is done", 1, () -> y.why(0, 1));
    }

    private static void holds() {
        QuestLedger x = Check.loaded("ledger;quest 0 0;step 0 1;step 0 1;step 0 1;goal 0 or 1 and 2;"
            + "quest 0 0;step 0 1;step 0 1;step 0 1;goal 2 of (0,0,1 and 2);"
            + "quest 0 0;step 0 1;step 0 1;goal 3 of (0,1);"
            + "quest 0 0;" + "step 0 1;".repeat(6) + "goal 6 of (0,1,2,3,4,5) or (0 or 1) and 2;"
            + "quest 0 0;" + "step 0 1;".repeat(6) + "goal 3 of (0,1,2 of (2,3,4),5,2);"
            + "quest 0 0;" + "step 0 1;".repeat(6) + "goal 1 and 5 or 5 or 2 of ((2 of (2 of (0,1),3))or 2 of(4,2),0);");
        for (int steps = 0; steps < 64; steps++) {
            int set = steps;
            boolean has0 = (set & 1) != 0;
            boolean has1 = (set & 2) != 0;
            boolean has2 = (set & 4) != 0;
            int of234 = Integer.bitCount(set & 28);
            Check.due("'and' binds closer " + set, has0 || has1 && has2, () -> x.holds(0, set));
            Check.due("like goals count each " + set, has0, () -> x.holds(1, set));
            Check.due("more than there are " + set, false, () -> x.holds(2, set));
            Check.due("six " + set, set == 63 || (has0 || has1) && has2, () -> x.holds(3, set));
            int held = Integer.bitCount(set & 3) + (of234 >= 2 ? 1 : 0) + (set >> 5) + (has2 ? 1 : 0);
            Check.due("nested " + set, held >= 3, () -> x.holds(4, set));
            boolean inner = (set & 11) == 11 || (set & 20) == 20;
            Check.due("nested deep " + set, set >= 32 || inner && has0, () -> x.holds(5, set));
        }
        for (int steps : new int[] {-1, 64, Integer.MIN_VALUE, Integer.MAX_VALUE}) {
            Check.due("holds " + steps, Check.ARGUMENT, () -> x.holds(0, steps));
            Check.due("no quest, holds " + steps, Check.INDEX, () -> x.holds(6, steps));
            Check.due("quest -1, holds " + steps, Check.INDEX, () -> x.holds(-1, steps));
        }
        x.giveUp(0);
        Check.due("a lost quest is asked alike", true, () -> x.holds(0, 1));
    }

    private static void progress() {
        QuestLedger x = Check.loaded("ledger;quest 0 0;step 0 1;step 0 1;goal 0 and 1;quest 0 0;step 0 1;goal 0;");
        Check.due("none", 0.0f, x::progress);
        x.attempt(0, 1);
        Check.due("one of three", 1.0f / 3.0f, x::progress);
        x.attempt(1, 0);
        Check.due("two of three", 2.0f / 3.0f, x::progress);
        x.giveUp(0);
        Check.due("a lost quest counts", 2.0f / 3.0f, x::progress);
        x.undo();
        x.attempt(0, 0);
        Check.due("all", 1.0f, x::progress);
        QuestLedger y = Check.loaded("ledger;quest 0 0;step 0 1;goal 0;");
        y.attempt(0, 0);
        Check.due("the only one", 1.0f, y::progress);
        Check.due("without steps", 0.0f, () -> Check.loaded("ledger;").progress());
    }
}
