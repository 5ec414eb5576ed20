/** Promises 23 to 31: tell, attempt, play, add, spend, mend, giveUp, reopen and undo. */
public final class ChangesTest {
    private static final int[] WRONG = {-1, 2, 6, Integer.MIN_VALUE, Integer.MAX_VALUE};
    private static final String TWO = "ledger;stock 0 9;seed 7;quest 1 5;step 50 2 uses 0 2 gives 2 3 costly;step 50 1 uses 0 1;goal 0 and 1;"
        + "quest 0 1;step 0 1;goal 0;";

    public static void main(String[] args) {
        tell();
        wrongAttempts();
        successes();
        fails();
        draws();
        losing();
        play();
        add();
        spend();
        mend();
        giveUp();
        reopen();
        undo();
        undoOfEach();
        Check.end();
    }

    private static void tell() {
        QuestLedger x = Check.loaded("ledger;quest 0 0;" + "step 50 1;".repeat(6) + "goal 6 of (0,1,2,3,4,5);");
        for (int bad : new int[] {-1, 100, Integer.MIN_VALUE, Integer.MAX_VALUE}) {
            Check.due("tell a " + bad, Check.ARGUMENT, () -> x.tell(bad, 0));
            Check.due("tell b " + bad, Check.ARGUMENT, () -> x.tell(0, bad));
        }
        Check.due("what throws is no change", 0, x::undo);
        QuestLedger y = Check.loaded("ledger;quest 0 0;" + "step 50 9;".repeat(6) + "goal 6 of (0,1,2,3,4,5);");
        for (int n = 1; n <= 20; n++) {
            int due = 2 * n;
            Check.due("tell " + n, due, () -> y.tell(due % 4 == 0 ? 49 : 99, 50));
        }
        Check.due("42 are too many", Check.STATE, () -> y.tell(0, 0));
        Check.due("the range comes first", Check.ARGUMENT, () -> y.tell(0, 100));
        Check.due("first a of the first", 1, () -> y.attempt(0, 0));
        Check.due("39 and 2 are too many", Check.STATE, () -> y.tell(0, 0));
        Check.due("then b of the first", 1, () -> y.attempt(0, 1));
        Check.due("then a of the second", 0, () -> y.attempt(0, 2));
        Check.due("then b of the second", 1, () -> y.attempt(0, 2));
        Check.due("36 and 2", 38, () -> y.tell(0, 0));
        Check.due("the seed is not used", 0, () -> y.state(7));
    }

    private static void wrongAttempts() {
        QuestLedger x = Check.loaded(TWO);
        for (int bad : WRONG) {
            Check.due("attempt quest " + bad, Check.INDEX, () -> x.attempt(bad, 0));
            Check.due("attempt step " + bad, Check.INDEX, () -> x.attempt(0, bad));
        }
        x.spend(0, 8);
        Check.due("items are lacking", Check.STATE, () -> x.attempt(0, 0));
        x.tell(50, 0);
        x.attempt(0, 1);
        Check.due("done", Check.STATE, () -> x.attempt(0, 1));
        x.giveUp(1);
        Check.due("lost", Check.STATE, () -> x.attempt(1, 0));
        Check.due("no draw is taken", 1, () -> x.state(6));
        QuestLedger y = Check.loaded("ledger;quest 0 0;step 100 1;step 0 1;step 0 1 after 1;goal 0 or 1 and 2;");
        Check.due("a step ahead is not done", Check.STATE, () -> y.attempt(0, 2));
        y.attempt(0, 0);
        Check.due("broken", Check.STATE, () -> y.attempt(0, 0));
        y.attempt(0, 1);
        Check.due("the quest is done by it", 2, () -> y.attempt(0, 2));
        Check.due("the quest is done", Check.STATE, () -> y.attempt(0, 0));
    }

    private static void successes() {
        QuestLedger x = Check.loaded(TWO);
        x.tell(50, 99);
        Check.due("a draw of 50 is enough for 50", 1, () -> x.attempt(0, 0));
        Check.due("what it uses is taken", 7, () -> x.stock(0));
        Check.due("what it gives is added", 3, () -> x.stock(2));
        Check.due("no reward yet", 0, () -> x.stock(1));
        Check.due("open", 0, () -> x.quest(0, 1));
        Check.due("done", 2, () -> x.attempt(0, 1));
        Check.due("the reward", 5, () -> x.stock(1));
        Check.due("used again", 6, () -> x.stock(0));
        Check.due("all its steps", 3, () -> x.quest(0, 2));
        Check.due("status", 1, () -> x.quest(0, 1));
        QuestLedger y = Check.loaded("ledger;stock 3 5;quest 3 99;step 0 1 needs 3 5 uses 3 2 gives 3 99;goal 0;");
        for (int n = 0; n < 10; n++) {
            y.reopen(0);
            y.attempt(0, 0);
        }
        Check.due("needs is not taken", 5 + 10 * (99 + 99 - 2), () -> y.stock(3));
    }

    private static void fails() {
        QuestLedger x = Check.loaded(TWO);
        x.tell(49, 0);
        Check.due("49 is not enough for 50", 0, () -> x.attempt(0, 0));
        Check.due("costly: what it uses is taken", 7, () -> x.stock(0));
        Check.due("nothing is given", 0, () -> x.stock(2));
        Check.due("one fail", 1, () -> x.step(0, 0, 2));
        Check.due("not done", 0, () -> x.step(0, 0, 3));
        Check.due("lost by breaking", 3, () -> x.attempt(0, 0));
        Check.due("taken again", 5, () -> x.stock(0));
        Check.due("broken", 1, () -> x.quest(0, 3));
        Check.due("status", 2, () -> x.quest(0, 1));
        QuestLedger y = Check.loaded(TWO);
        y.tell(0, 0);
        Check.due("lost", 3, () -> y.attempt(0, 1));
        Check.due("not costly", 9, () -> y.stock(0));
        Check.due("no reward", 0, () -> y.stock(1));
    }

    private static void draws() {
        QuestLedger x = Check.loaded("ledger;seed 7;quest 0 0;" + "step 0 1;".repeat(5) + "step 100 9;goal 6 of (0,1,2,3,4,5);");
        int seed = 7;
        for (int n = 0; n < 5; n++) {
            int step = n;
            seed = seed * 1103515245 + 12345;
            int due = seed;
            Check.due("succeeds", 1, () -> x.attempt(0, step));
            Check.due("the seed", due, () -> x.state(7));
        }
        x.tell(99, 99);
        x.attempt(0, 5);
        int same = seed;
        Check.due("a told draw leaves the seed", same, () -> x.state(7));
        Check.due("one number is taken", 1, () -> x.state(6));
        for (int first = 0; first < 10000; first += 371) {
            int next = first * 1103515245 + 12345;
            int draw = (next >> 16 & 32767) % 100;
            String text = "ledger;seed " + first + ";quest 0 0;step " + draw + " 1;goal 0;quest 0 0;step " + (draw + 1) + " 1;goal 0;";
            QuestLedger y = Check.loaded(text);
            Check.due(text + " not less than its risk", 2, () -> y.attempt(0, 0));
            y.undo();
            Check.due(text + " less than its risk", 3, () -> y.attempt(1, 0));
        }
    }

    private static void losing() {
        String text = "ledger;quest 0 0;step 50 1;step 50 2 after 0;step 50 1 after 1;step 50 1;goal ";
        QuestLedger x = Check.loaded(text + "2 or 3;");
        x.tell(0, 0);
        Check.due("3 is left", 0, () -> x.attempt(0, 0));
        Check.due("what has a broken one ahead is not broken", 1, () -> x.quest(0, 3));
        Check.due("nothing is left: 2 has 1 ahead, and that 0", 3, () -> x.attempt(0, 3));
        QuestLedger y = Check.loaded(text + "2 or 3;");
        y.tell(50, 0);
        y.attempt(0, 0);
        Check.due("1 can fail twice", 0, () -> y.attempt(0, 1));
        y.tell(0, 0);
        Check.due("3 is left", 0, () -> y.attempt(0, 1));
        Check.due("nothing is left", 3, () -> y.attempt(0, 3));
        QuestLedger z = Check.loaded("ledger;quest 0 0;step 50 9;step 0 1 uses 0 9;goal 1;quest 0 0;step 50 9;goal 2 of (0);");
        z.tell(0, 0);
        Check.due("items do not matter", 0, () -> z.attempt(0, 0));
        Check.due("not possible, but open", 0, () -> z.quest(0, 1));
        Check.due("a goal that never holds is lost with the first fail", 3, () -> z.attempt(1, 0));
        QuestLedger w = Check.loaded("ledger;quest 0 0;step 50 1;step 50 1;goal 0 and 1;quest 0 0;step 50 1;goal 0;");
        w.tell(50, 49);
        w.attempt(0, 0);
        Check.due("lost with a step done", 3, () -> w.attempt(0, 1));
        Check.due("the done one stays done", 1, () -> w.quest(0, 2));
        Check.due("another quest is open", 0, () -> w.quest(1, 1));
        QuestLedger v = Check.loaded("ledger;quest 0 0;step 50 1;step 50 9;goal 0 and 1;");
        v.tell(0, 0);
        v.attempt(0, 0);
        Check.due("lost", 2, () -> v.quest(0, 1));
        v.mend(0, 0);
        Check.due("stays lost", 2, () -> v.quest(0, 1));
        QuestLedger u = Check.loaded("ledger;quest 0 0;step 50 2;step 50 1;step 0 1;goal 0 and 2 or 1 and 2;");
        u.tell(0, 0);
        u.attempt(0, 0);
        Check.due("one of both ways is left", 0, () -> u.attempt(0, 0));
        u.mend(0, 0);
        u.tell(0, 0);
        Check.due("the mended one is left", 0, () -> u.attempt(0, 1));
    }

    private static void play() {
        QuestLedger x = Check.loaded(TWO);
        for (int bad : WRONG) {
            Check.due("play " + bad, Check.INDEX, () -> x.play(bad));
        }
        x.tell(49, 50);
        x.tell(60, 7);
        Check.due("a fail and two successes", 3, () -> x.play(0));
        Check.due("done", 1, () -> x.quest(0, 1));
        Check.due("the stock", 4, () -> x.stock(0));
        Check.due("the reward", 5, () -> x.stock(1));
        Check.due("one draw is left", 1, () -> x.state(6));
        Check.due("done already", 0, () -> x.play(0));
        Check.due("a play without tries is a change", 4, x::undo);
        Check.due("one play is one change", 3, x::undo);
        Check.due("the draws are back", 4, () -> x.state(6));
        Check.due("open again", 0, () -> x.quest(0, 1));
        x.giveUp(0);
        Check.due("lost already", 0, () -> x.play(0));
        QuestLedger y = Check.loaded("ledger;quest 0 0;step 100 9;step 100 9;step 0 1 after 1;goal 0 or 2;");
        Check.due("it goes another way when one is broken, until it is lost", 18, () -> y.play(0));
        Check.due("lost", 2, () -> y.quest(0, 1));
        QuestLedger z = Check.loaded("ledger;stock 0 3;quest 0 0;step 100 9 uses 0 1 costly;goal 0;");
        Check.due("until an item is lacking", 3, () -> z.play(0));
        Check.due("still open", 0, () -> z.quest(0, 1));
        QuestLedger w = Check.loaded("ledger;stock 0 2;quest 0 0;step 50 9 uses 0 2 costly;step 0 1;step 0 1;goal 0 or 1 and 2;");
        w.tell(0, 0);
        Check.due("the plan is made anew", 3, () -> w.play(0));
        Check.due("the other way", 6, () -> w.quest(0, 2));
        QuestLedger full = Check.loaded("ledger;quest 0 0;" + "step 100 9;".repeat(6) + "goal 1 of (0,1,2,3,4,5);");
        Check.due("54 fails", 54, () -> full.play(0));
    }

    private static void add() {
        QuestLedger x = Check.loaded("ledger;stock 0 5;");
        Check.due("add 1", 6, () -> x.add(0, 1));
        Check.due("add 999", 1005, () -> x.add(0, 999));
        Check.due("stock", 1005, () -> x.stock(0));
        Check.due("another item", 0, () -> x.stock(1));
        Check.due("the last item", 2, () -> x.add(7, 2));
        for (int bad : new int[] {0, -1, 1000, Integer.MIN_VALUE, Integer.MAX_VALUE}) {
            Check.due("add " + bad, Check.ARGUMENT, () -> x.add(0, bad));
            Check.due("add to item 8 " + bad, Check.INDEX, () -> x.add(8, bad));
            Check.due("add to item -1 " + bad, Check.INDEX, () -> x.add(-1, bad));
        }
        Check.due("add to no item", Check.INDEX, () -> x.add(Integer.MAX_VALUE, 1));
        // No object comes to this bound in the 512 calls that are promised, but the class keeps it all the same.
        QuestLedger y = Check.loaded("ledger;quest 0 9;step 0 1 gives 0 9;goal 0;");
        for (int n = 0; n < 1001; n++) {
            y.add(0, 999);
        }
        Check.due("one too many", Check.STATE, () -> y.add(0, 2));
        Check.due("just as many", 1000000, () -> y.add(0, 1));
        Check.due("the amount comes first", Check.ARGUMENT, () -> y.add(0, 0));
        Check.due("one too many", Check.STATE, () -> y.add(0, 1));
        Check.due("another item", 1, () -> y.add(1, 1));
        y.attempt(0, 0);
        Check.due("gives and rewards have no limit", 1000018, () -> y.stock(0));
    }

    private static void spend() {
        QuestLedger x = Check.loaded("ledger;stock 0 999 1 4;");
        Check.due("less", Check.STATE, () -> x.spend(1, 5));
        Check.due("all", 0, () -> x.spend(1, 4));
        Check.due("none left", Check.STATE, () -> x.spend(1, 1));
        Check.due("spend 1", 998, () -> x.spend(0, 1));
        Check.due("999 of 998", Check.STATE, () -> x.spend(0, 999));
        Check.due("stock", 998, () -> x.stock(0));
        for (int bad : new int[] {0, -1, 1000, Integer.MIN_VALUE, Integer.MAX_VALUE}) {
            Check.due("spend " + bad, Check.ARGUMENT, () -> x.spend(1, bad));
            Check.due("spend of item 8 " + bad, Check.INDEX, () -> x.spend(8, bad));
            Check.due("spend of item -1 " + bad, Check.INDEX, () -> x.spend(-1, bad));
        }
        x.add(0, 1);
        Check.due("999 of 999", 0, () -> x.spend(0, 999));
    }

    private static void mend() {
        QuestLedger x = Check.loaded("ledger;quest 0 0;step 50 2;step 50 2;goal 0 or 1;quest 0 0;step 0 1;goal 0;");
        for (int bad : WRONG) {
            Check.due("mend quest " + bad, Check.INDEX, () -> x.mend(bad, 0));
            Check.due("mend step " + bad, Check.INDEX, () -> x.mend(0, bad));
        }
        x.tell(0, 0);
        x.attempt(0, 0);
        x.attempt(0, 0);
        Check.due("broken", 3, () -> x.why(0, 0));
        Check.due("two fails before", 2, () -> x.mend(0, 0));
        Check.due("no fails", 0, () -> x.step(0, 0, 2));
        Check.due("it can be tried again", 0, () -> x.why(0, 0));
        Check.due("none before", 0, () -> x.mend(0, 0));
        Check.due("a change all the same", 5, x::undo);
        Check.due("the mending is undone", 4, x::undo);
        Check.due("two fails again", 2, () -> x.step(0, 0, 2));
        x.tell(0, 50);
        x.attempt(0, 1);
        x.attempt(0, 1);
        Check.due("a done step with a fail", 1, () -> x.mend(0, 1));
        Check.due("it stays done", 1, () -> x.step(0, 1, 3));
        Check.due("the quest stays done", 1, () -> x.quest(0, 1));
        Check.due("another step keeps its fails", 2, () -> x.step(0, 0, 2));
    }

    private static void giveUp() {
        QuestLedger x = Check.loaded("ledger;quest 0 9;step 0 1;step 0 1;step 0 1;goal 0 and 1;quest 0 0;step 0 1;goal 0;");
        for (int bad : WRONG) {
            Check.due("giveUp " + bad, Check.INDEX, () -> x.giveUp(bad));
        }
        x.attempt(0, 0);
        x.attempt(0, 2);
        Check.due("the set of its steps that are done", 5, () -> x.giveUp(0));
        Check.due("lost", 2, () -> x.quest(0, 1));
        Check.due("they stay done", 5, () -> x.quest(0, 2));
        Check.due("lost already", Check.STATE, () -> x.giveUp(0));
        x.attempt(1, 0);
        Check.due("done already", Check.STATE, () -> x.giveUp(1));
        Check.due("what throws is no change", 4, x::undo);
        Check.due("none", 0, () -> x.giveUp(1));
        Check.due("no reward", 0, () -> x.stock(0));
    }

    private static void reopen() {
        QuestLedger x = Check.loaded(TWO);
        for (int bad : WRONG) {
            Check.due("reopen " + bad, Check.INDEX, () -> x.reopen(bad));
        }
        Check.due("open", 0, () -> x.reopen(0));
        Check.due("a change all the same", 1, x::undo);
        x.tell(0, 0);
        x.attempt(0, 0);
        x.attempt(0, 0);
        Check.due("lost", 2, () -> x.reopen(0));
        Check.due("open again", 0, () -> x.quest(0, 1));
        Check.due("no fails", 0, () -> x.quest(0, 6));
        Check.due("none broken", 0, () -> x.quest(0, 3));
        Check.due("the stock stays", 5, () -> x.stock(0));
        x.tell(50, 50);
        x.attempt(0, 0);
        x.attempt(0, 1);
        Check.due("done", 1, () -> x.reopen(0));
        Check.due("no step is done", 0, () -> x.quest(0, 2));
        Check.due("the reward stays", 5, () -> x.stock(1));
        x.play(1);
        x.reopen(0);
        Check.due("another quest stays done", 1, () -> x.quest(1, 1));
    }

    private static void undo() {
        QuestLedger x = new QuestLedger();
        Check.due("nothing to undo", -1, x::undo);
        for (int n = 0; n < 9; n++) {
            x.add(0, 1);
        }
        for (int left = 7; left >= 0; left--) {
            int due = left;
            Check.due("undo", due, x::undo);
            Check.due("stock", due + 1, () -> x.stock(0));
        }
        Check.due("the first change is final", -1, x::undo);
        Check.due("nothing changes then", 1, () -> x.stock(0));
        for (int n = 0; n < 8; n++) {
            x.add(1, 1);
        }
        x.undo();
        x.undo();
        x.add(2, 1);
        x.add(2, 1);
        Check.due("what was undone does not make others final", 7, x::undo);
        for (int left = 6; left >= 0; left--) {
            int due = left;
            Check.due("undo", due, x::undo);
        }
        Check.due("all eight are undone", 0, () -> x.stock(1));
        Check.due("no more", -1, x::undo);
        Check.append(x, "ledger;stock 4 4;");
        x.add(3, 1);
        x.load(6);
        Check.due("an offset", 6, x::errorOffset);
        Check.append(x, "ledger;stock 4 4;");
        Check.due("undo", 0, x::undo);
        Check.due("the error offset is not affected", 6, x::errorOffset);
        Check.due("the buffer is not affected", 0, () -> x.load(20));
        Check.due("stock", 4, () -> x.stock(4));
        Check.due("undo of load", 0, x::undo);
        Check.due("the offset of the latest load", -1, x::errorOffset);
        Check.due("stock is back", 0, () -> x.stock(4));
        Check.due("the buffer does not come back", Check.ARGUMENT, () -> x.load(1));
    }

    private static void undoOfEach() {
        QuestLedger x = Check.loaded(TWO + "worth risk*7+quest;");
        x.tell(0, 50);
        x.attempt(0, 0);
        long[] sums = new long[9];
        for (int n = 0; n < 8; n++) {
            sums[n] = x.checksum();
            changeNext(x, n);
        }
        for (int n = 7; n >= 0; n--) {
            int left = n;
            long due = sums[n];
            Check.due("undo of change " + n, left, x::undo);
            Check.due("all is as before change " + n, due, x::checksum);
        }
        Check.due("no more", -1, x::undo);
        Check.due("worth", 100 * 7, () -> x.worth(0));
        Check.due("play on with the draw that is left", 1, () -> x.attempt(0, 1));
        Check.due("goal and amounts are back", true, () -> x.possible(0));
    }

    private static void changeNext(QuestLedger x, int n) {
        switch (n) {
            case 0: x.tell(1, 2); break;
            case 1: x.attempt(0, 1); break;
            case 2: x.spend(0, 5); break;
            case 3: x.play(1); break;
            case 4: Check.load(x, "ledger;stock 6 6;worth 3;quest 0 1;step 1 2 uses 3 3 needs 4 4 gives 5 5 costly;step 0 1 after 0;goal 1;"); break;
            case 5: x.mend(0, 0); break;
            case 6: x.giveUp(0); break;
            default: x.reopen(0); break;
        }
    }
}
