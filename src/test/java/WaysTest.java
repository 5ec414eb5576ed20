/** Promises 12 to 18 and 21: possible, planLength, planStep, safest, endings, lacking, campaign and chance. */
public final class WaysTest {
    public static void main(String[] args) {
        noSuchThings();
        eachForItself();
        possible();
        plans();
        safest();
        endings();
        lacking();
        campaign();
        chance();
        Check.end();
    }

    private static void noSuchThings() {
        QuestLedger x = Check.loaded("ledger;quest 0 0;step 0 1;goal 0;");
        for (int quest : new int[] {-1, 1, 6, Integer.MIN_VALUE, Integer.MAX_VALUE}) {
            Check.due("possible " + quest, Check.INDEX, () -> x.possible(quest));
            Check.due("planLength " + quest, Check.INDEX, () -> x.planLength(quest));
            Check.due("planStep " + quest, Check.INDEX, () -> x.planStep(quest, -1));
            Check.due("safest " + quest, Check.INDEX, () -> x.safest(quest));
            Check.due("endings " + quest, Check.INDEX, () -> x.endings(quest));
            Check.due("lacking " + quest, Check.INDEX, () -> x.lacking(quest, 0));
            Check.due("chance " + quest, Check.INDEX, () -> x.chance(quest));
        }
        Check.due("lacking item 8", Check.INDEX, () -> x.lacking(0, 8));
        Check.due("lacking item -1", Check.INDEX, () -> x.lacking(0, -1));
    }

    /** Each call finds out by itself what the way is, whatever was asked before. */
    private static void eachForItself() {
        QuestLedger x = Check.loaded("ledger;quest 0 0;step 10 1;step 10 1;goal 0 and 1;quest 0 0;step 0 1;step 20 1;goal 1;"
            + "quest 0 0;step 0 1 uses 0 1;goal 0;");
        for (int n = 0; n < 7; n++) {
            int kind = n;
            Check.due("of 0, call " + n, (double) new int[] {1, 2, 1, 20, 1, 0, 81}[n], () -> ask(x, kind, 0, 1));
            Check.due("of 1, call " + n, (double) new int[] {1, 1, 1, 20, 2, 0, 80}[n], () -> ask(x, kind, 1, 0));
            Check.due("of 2, call " + n, kind == 2 ? (Object) Check.ELEMENT : (Object) (double) new int[] {0, -1, 0, -1, 0, 1, 0}[n],
                () -> ask(x, kind, 2, 0));
            Check.due("of 0 again, call " + n, (double) new int[] {1, 2, 1, 20, 1, 0, 81}[n], () -> ask(x, kind, 0, 1));
            Check.due("another question", true, () -> x.possible(1));
            Check.due("of 0 behind 1, call " + n, (double) new int[] {1, 2, 1, 20, 1, 0, 81}[n], () -> ask(x, kind, 0, 1));
        }
    }

    private static Object ask(QuestLedger x, int kind, int quest, int k) {
        switch (kind) {
            case 0: return x.possible(quest) ? 1.0 : 0.0;
            case 1: return (double) x.planLength(quest);
            case 2: return (double) x.planStep(quest, k);
            case 3: return (double) x.safest(quest);
            case 4: return (double) x.endings(quest);
            case 5: return (double) x.lacking(quest, 0);
            default: return (double) Math.round(100 * x.chance(quest));
        }
    }

    private static void plan(QuestLedger x, int quest, int... steps) {
        Check.due("possible", steps.length > 0, () -> x.possible(quest));
        Check.due("planLength", steps.length > 0 ? steps.length : -1, () -> x.planLength(quest));
        for (int k = 0; k < steps.length; k++) {
            int asked = k;
            Check.due("planStep " + k, steps[k], () -> x.planStep(quest, asked));
        }
        for (int k : new int[] {-1, steps.length, 6, Integer.MIN_VALUE, Integer.MAX_VALUE}) {
            Check.due("planStep " + k, Check.ELEMENT, () -> x.planStep(quest, k));
        }
    }

    private static void possible() {
        QuestLedger x = Check.loaded("ledger;stock 0 2;quest 0 9;step 100 1 uses 0 2 gives 1 1;step 0 1 uses 1 1 needs 0 1;goal 0 and 1;");
        plan(x, 0);
        x.add(0, 1);
        plan(x, 0, 0, 1);
        x.attempt(0, 0);
        Check.due("broken, so lost", 2, () -> x.quest(0, 1));
        plan(x, 0);
        x.undo();
        x.giveUp(0);
        plan(x, 0);
        x.undo();
        x.tell(0, 0);
        x.spend(0, 3);
        plan(x, 0);
        QuestLedger y = Check.loaded("ledger;quest 0 9;step 0 1;step 0 1;goal 6 of (0,1);quest 0 0;step 0 1;goal 0;");
        plan(y, 0);
        plan(y, 1, 0);
        y.attempt(1, 0);
        plan(y, 1);
    }

    private static void plans() {
        plan(Check.loaded("ledger;quest 0 0;step 0 1;step 0 1;step 0 1;goal 0 and 1 or 2;"), 0, 2);
        plan(Check.loaded("ledger;quest 0 0;step 0 1;step 0 1;step 0 1;goal 2 of (0,1,2);"), 0, 0, 1);
        plan(Check.loaded("ledger;quest 0 0;step 0 1;step 0 1;step 0 1 after 1;goal 2 and (0 or 1);"), 0, 1, 2);
        plan(Check.loaded("ledger;stock 1 1;quest 0 0;step 0 1 uses 2 1;step 0 1 gives 2 1;step 0 1 gives 2 1;goal 0;"), 0, 1, 0);
        plan(Check.loaded("ledger;quest 0 0;step 100 1;step 100 1;goal 1;"), 0, 1);
        plan(Check.loaded("ledger;stock 0 3;quest 0 0;step 0 1 uses 0 2;step 0 1 uses 0 2;step 0 1 needs 0 3;goal 1 and 2;"), 0, 2, 1);
        plan(Check.loaded("ledger;quest 0 0;" + "step 0 1;".repeat(6) + "goal 6 of (5,4,3,2,1,0);"), 0, 0, 1, 2, 3, 4, 5);
        QuestLedger x = Check.loaded("ledger;quest 0 0;step 0 1;step 0 1;step 0 1;step 50 1;goal 0 and 1 and 2 or 3 and 2;");
        plan(x, 0, 2, 3);
        x.attempt(0, 0);
        plan(x, 0, 1, 2);
        x.tell(49, 49);
        x.attempt(0, 3);
        plan(x, 0, 1, 2);
        x.attempt(0, 2);
        plan(x, 0, 1);
        // 1 is not to be tried behind 0, although both of them can be done the other way round.
        plan(Check.loaded("ledger;stock 0 1;quest 0 0;step 0 1 uses 0 1;step 0 1 needs 0 1;step 0 1;step 0 1;step 0 1;"
            + "goal 0 and 1 and 4 or 0 and 2 and 3;"), 0, 0, 2, 3);
        plan(Check.loaded("ledger;quest 0 0;step 0 1 uses 7 1;step 0 1 uses 7 1;step 0 1 uses 7 1;step 0 1 uses 7 1;"
            + "step 0 1 gives 7 3;step 0 1 gives 7 1;goal 4 of (0,1,2,3);"), 0, 4, 0, 1, 2, 5, 3);
        plan(Check.loaded("ledger;quest 5 50;step 0 1;goal 0;quest 5 0;step 0 1 uses 5 1;goal 0;"), 1);
    }

    private static void safest() {
        QuestLedger x = Check.loaded("ledger;stock 0 1;quest 0 0;step 90 2;step 20 1;step 30 1 uses 0 1;goal 0 or 1 and 2;"
            + "quest 0 0;step 10 1 uses 0 2;goal 0;quest 0 0;step 100 1;goal 0;quest 0 0;step 0 1;goal 0;");
        Check.due("the longer way", 50, () -> x.safest(0));
        Check.due("none", -1, () -> x.safest(1));
        Check.due("a sure fail is a way too", 100, () -> x.safest(2));
        Check.due("no risk", 0, () -> x.safest(3));
        QuestLedger z = Check.loaded("ledger;quest 0 0;step 0 1;step 50 1;step 7 1;goal 0 or 1 or 2;quest 0 0;step 1 1;step 50 1;goal 0 or 1;");
        Check.due("no risk, and then more", 0, () -> z.safest(0));
        Check.due("1, and then more", 1, () -> z.safest(1));
        x.tell(20, 0);
        x.attempt(0, 1);
        Check.due("what is done counts no more", 30, () -> x.safest(0));
        x.spend(0, 1);
        Check.due("an item is lacking", 90, () -> x.safest(0));
        x.giveUp(0);
        Check.due("lost", -1, () -> x.safest(0));
        QuestLedger y = Check.loaded("ledger;quest 0 0;" + "step 100 1;".repeat(6) + "goal 6 of (0,1,2,3,4,5);");
        Check.due("600", 600, () -> y.safest(0));
    }

    private static void endings() {
        QuestLedger x = Check.loaded("ledger;quest 0 0;step 0 1;step 0 1;step 0 1;goal 2 of (0,1,2);"
            + "quest 0 0;step 0 1;step 0 1;step 0 1;goal 0 or 1 and 2;quest 0 0;step 0 1 uses 0 1;goal 0;"
            + "quest 0 0;" + "step 0 1;".repeat(6) + "goal 3 of (0,1,2,3,4,5);");
        Check.due("three pairs", 3, () -> x.endings(0));
        Check.due("0, 0 and 1, 0 and 2, 1 and 2", 4, () -> x.endings(1));
        Check.due("none", 0, () -> x.endings(2));
        Check.due("20 triples", 20, () -> x.endings(3));
        x.attempt(0, 1);
        Check.due("two pairs", 2, () -> x.endings(0));
        x.attempt(0, 0);
        Check.due("a done quest has no way", 0, () -> x.endings(0));
    }

    private static void lacking() {
        QuestLedger x = Check.loaded("ledger;stock 0 5;quest 0 0;step 0 1 uses 0 3;step 0 1 uses 0 3 needs 1 2;goal 0 and 1;"
            + "quest 0 0;step 0 1 needs 3 99;goal 0;quest 0 0;step 0 1 uses 3 99;step 0 1 uses 3 1;goal 0 and 1;"
            + "quest 0 0;step 0 1 uses 4 2 gives 5 1;step 0 1 uses 5 2;goal 0 or 1;");
        Check.due("item 0 alone is not enough", -1, () -> x.lacking(0, 0));
        Check.due("item 1 alone is not enough", -1, () -> x.lacking(0, 1));
        x.add(1, 2);
        Check.due("one", 1, () -> x.lacking(0, 0));
        Check.due("still not enough", -1, () -> x.lacking(0, 1));
        x.add(0, 1);
        Check.due("possible already", 0, () -> x.lacking(0, 0));
        Check.due("possible already, any item", 0, () -> x.lacking(0, 7));
        Check.due("99", 99, () -> x.lacking(1, 3));
        Check.due("100 are too many", -1, () -> x.lacking(2, 3));
        x.add(3, 1);
        Check.due("98", 98, () -> x.lacking(1, 3));
        Check.due("99 of 100", 99, () -> x.lacking(2, 3));
        Check.due("one way", 2, () -> x.lacking(3, 4));
        Check.due("the other way", 2, () -> x.lacking(3, 5));
        Check.due("asking adds nothing", 1, () -> x.stock(3));
        x.giveUp(1);
        Check.due("a lost quest", -1, () -> x.lacking(1, 3));
        x.attempt(0, 0);
        x.attempt(0, 1);
        Check.due("a done quest", -1, () -> x.lacking(0, 0));
    }

    private static void campaign() {
        String text = "ledger;quest 3 5;step 0 1 uses 2 1;goal 0;quest 2 1;step 0 1;step 0 1;goal 0;quest 0 0;step 0 1 uses 3 6;goal 0;";
        QuestLedger x = Check.loaded(text);
        long before = x.checksum();
        Check.due("the reward of 1 makes 0 possible", 2, x::campaign);
        Check.due("nothing changes", before, x::checksum);
        Check.due("and nothing is to be undone but load", 0, x::undo);
        QuestLedger y = Check.loaded(text);
        y.add(3, 1);
        Check.due("all", 3, y::campaign);
        y.giveUp(1);
        Check.due("a lost quest is left out", 0, y::campaign);
        QuestLedger z = Check.loaded("ledger;stock 0 1;quest 0 0;step 100 1 uses 0 1;goal 0;quest 0 0;step 0 1 uses 0 1;goal 0;"
            + "quest 0 0;step 100 9;goal 0;quest 0 0;step 0 1;step 0 1 uses 0 1;goal 1;");
        Check.due("the first takes what the others need; each step succeeds", 2, z::campaign);
        Check.due("nobody draws", 0, () -> z.state(7));
        QuestLedger six = Check.loaded("ledger;" + "quest 1 1;step 0 1;goal 0;".repeat(6));
        Check.due("six", 6, six::campaign);
        six.play(3);
        Check.due("five are left", 5, six::campaign);
        Check.due("none", 0, () -> Check.loaded("ledger;").campaign());
    }

    private static void chance() {
        QuestLedger x = Check.loaded("ledger;quest 0 0;step 10 9;step 30 1;step 70 1;goal 0 and 1 and 2;"
            + "quest 0 0;step 100 1;goal 0;quest 0 0;step 0 1;goal 0;quest 0 0;step 0 1 needs 0 1;goal 0;"
            + "quest 0 0;step 99 1;step 1 1;step 1 1;goal 0 or 1 and 2;");
        Check.due("a product", 1.0 * (90.0 / 100.0) * (70.0 / 100.0) * (30.0 / 100.0), () -> x.chance(0));
        Check.due("a sure fail", 0.0, () -> x.chance(1));
        Check.due("sure", 1.0, () -> x.chance(2));
        Check.due("not possible", 0.0, () -> x.chance(3));
        Check.due("of the plan, not of the safest way", 1.0 / 100.0, () -> x.chance(4));
        x.tell(99, 0);
        x.attempt(0, 1);
        Check.due("what is done counts no more", 1.0 * (90.0 / 100.0) * (30.0 / 100.0), () -> x.chance(0));
        x.attempt(0, 0);
        Check.due("a fail is not counted", 1.0 * (90.0 / 100.0) * (30.0 / 100.0), () -> x.chance(0));
        x.giveUp(0);
        Check.due("lost", 0.0, () -> x.chance(0));
    }
}
