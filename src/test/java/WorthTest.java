/** Promises 19 and 20: worth and best. */
public final class WorthTest {
    private static final String QUESTS = "quest 0 40;step 10 9;step 30 1;step 0 1;goal 0 and 1;quest 3 7;step 5 1 uses 0 1;goal 0;";

    public static void main(String[] args) {
        worth();
        sums();
        limits();
        best();
        Check.end();
    }

    private static void worthOf(int due, int quest, String sum) {
        QuestLedger x = Check.loaded("ledger;worth " + sum + ";" + QUESTS);
        Check.due(sum + " of " + quest, due, () -> x.worth(quest));
    }

    private static void worth() {
        QuestLedger plain = Check.loaded("ledger;" + QUESTS);
        Check.due("the reward", 40, () -> plain.worth(0));
        Check.due("the reward of an impossible quest", 7, () -> plain.worth(1));
        for (int quest : new int[] {-1, 2, Integer.MIN_VALUE, Integer.MAX_VALUE}) {
            Check.due("worth " + quest, Check.INDEX, () -> plain.worth(quest));
        }
        worthOf(2, 0, "length");
        worthOf(-1, 1, "length");
        worthOf(40, 0, "risk");
        worthOf(0, 1, "risk");
        worthOf(0, 0, "done");
        worthOf(0, 0, "fails");
        worthOf(40, 0, "reward");
        worthOf(0, 0, "quest");
        worthOf(1, 1, "quest");
        QuestLedger x = Check.loaded("ledger;" + QUESTS + "worth length*1000+risk*100+done*10+fails;");
        x.tell(0, 99);
        x.attempt(0, 0);
        Check.due("a fail", 2000 + 4000 + 1, () -> x.worth(0));
        x.attempt(0, 2);
        Check.due("a step that the plan is without", 2000 + 4000 + 10 + 1, () -> x.worth(0));
        x.tell(99, 99);
        x.attempt(0, 0);
        Check.due("a step of the plan", 1000 + 3000 + 20 + 1, () -> x.worth(0));
        x.attempt(0, 1);
        Check.due("done: no plan, but steps and fails", -1000 + 30 + 1, () -> x.worth(0));
        QuestLedger y = Check.loaded("ledger;worth risk;quest 0 0;step 90 1;step 5 1;step 6 1;goal 0 or 1 and 2;");
        Check.due("the risk of the plan, not the smallest one", 90, () -> y.worth(0));
    }

    private static void sums() {
        worthOf(14, 0, "2+3*4");
        worthOf(20, 0, "(2+3)*4");
        worthOf(-5, 0, "1-2-4");
        worthOf(3, 0, "1-(2-4)");
        worthOf(2, 0, "12/3/2");
        worthOf(12, 0, "12/(2/2)");
        worthOf(3, 0, "7/2");
        worthOf(-3, 0, "(0-7)/2");
        worthOf(-3, 0, "7/(0-2)");
        worthOf(3, 0, "(0-7)/(0-2)");
        worthOf(6, 0, "7/2*2");
        worthOf(0, 0, "5/0");
        worthOf(9, 0, "5/quest+9");
        worthOf(0, 0, "0/0");
        worthOf(9999, 0, "9999");
        worthOf(12, 0, "0000012");
        worthOf(1, 0, "1/(2-1)");
        worthOf(42, 0, "reward+length");
        worthOf(-39, 0, "1-reward");
        worthOf(38, 0, "(((reward)))-((length))");
        worthOf(15, 0, "1+2*(1+2*(1+2*1))");
        worthOf(31, 0, "1+2*(1+2*(1+2*(1+2*1)))");
        worthOf(47, 0, "1+2*(1+2*(1+2*(1+2*(1+1))))");
        worthOf(63, 0, "1+2*(1+2*(1+2*(1+2*(1+2*1))))");
    }

    private static void limits() {
        worthOf(1000000, 0, "9999*9999");
        worthOf(-1000000, 0, "(0-9999)*9999");
        worthOf(1000000, 0, "9999*9999*9999*9999");
        worthOf(999999, 0, "9999*9999-1");
        worthOf(0, 0, "9999*9999-9999*9999");
        worthOf(1000000, 0, "9999*9999+1");
        worthOf(999000, 0, "9999*9999+1000-1000");
        worthOf(500000, 0, "9999*9999/2");
        worthOf(-999999, 0, "1-9999*9999");
        worthOf(-1000000, 0, "0-9999*9999-5");
        worthOf(999900, 0, "9999*100");
        worthOf(999999, 0, "9999*100+99");
        worthOf(1000000, 0, "9999*100+100");
        worthOf(1000000, 0, "9999*100+101");
        worthOf(-1000000, 0, "0-9999*100-101");
        worthOf(1000000, 0, "9999*101");
        worthOf(1000000, 0, "(0-9999*9999)/(0-1)");
        worthOf(1000000, 0, "(9999*9999)*(9999*9999)");
        worthOf(500000, 0, "9999*9999*2/2");
    }

    private static void best() {
        QuestLedger x = Check.loaded("ledger;quest 0 5;step 0 1;goal 0;quest 0 9;step 0 1 uses 0 1;goal 0;"
            + "quest 0 7;step 0 1;goal 0;quest 0 7;step 0 1;goal 0;quest 0 6;step 0 1;goal 0;");
        Check.due("the possible quest with the greatest worth, the first of like ones", 2, x::best);
        x.add(0, 1);
        Check.due("now possible", 1, x::best);
        x.giveUp(1);
        x.giveUp(2);
        Check.due("the next one", 3, x::best);
        x.play(3);
        Check.due("one that is done is not possible", 4, x::best);
        x.play(4);
        x.play(0);
        Check.due("none", -1, x::best);
        QuestLedger y = Check.loaded("ledger;worth 0-9999*9999;" + "quest 0 5;step 0 1;goal 0;".repeat(2));
        Check.due("negative worths", 0, y::best);
        QuestLedger z = Check.loaded("ledger;worth 0-risk;quest 0 5;step 9 1;goal 0;quest 0 5;step 8 1;goal 0;");
        Check.due("the smaller loss", 1, z::best);
    }
}
