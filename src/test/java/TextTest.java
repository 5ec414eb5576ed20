/** Promises 1 to 4: a new object, append, load and errorOffset, with the grammar and its errors. */
public final class TextTest {
    private static final int SYNTAX = QuestLedger.SYNTAX_ERROR;
    private static final int RANGE = QuestLedger.OUT_OF_RANGE;
    private static final int TWICE = QuestLedger.REPEATED;
    private static final int MANY = QuestLedger.TOO_MANY;
    private static final int DEEP = QuestLedger.TOO_DEEP;

    public static void main(String[] args) {
        constants();
        newObject();
        appending();
        loading();
        goodTexts();
        syntaxErrors();
        numbersOutOfRange();
        repetitions();
        tooMany();
        tooDeep();
        Check.end();
    }

    private static void constants() {
        Check.due("SYNTAX_ERROR", -2, () -> QuestLedger.SYNTAX_ERROR);
        Check.due("OUT_OF_RANGE", -3, () -> QuestLedger.OUT_OF_RANGE);
        Check.due("REPEATED", -4, () -> QuestLedger.REPEATED);
        Check.due("TOO_MANY", -5, () -> QuestLedger.TOO_MANY);
        Check.due("TOO_DEEP", -6, () -> QuestLedger.TOO_DEEP);
    }

    private static void newObject() {
        QuestLedger x = new QuestLedger();
        for (int what = 0; what <= 8; what++) {
            int asked = what;
            Check.due("new: state " + what, 0, () -> x.state(asked));
        }
        for (int item = 0; item < 8; item++) {
            int asked = item;
            Check.due("new: stock " + item, 0, () -> x.stock(asked));
        }
        Check.due("new: quest", Check.INDEX, () -> x.quest(0, 0));
        Check.due("new: undo", -1, x::undo);
        Check.due("new: best", -1, x::best);
        Check.due("new: campaign", 0, x::campaign);
        Check.due("new: progress", 0.0f, x::progress);
        Check.due("new: errorOffset", -1, x::errorOffset);
        Check.due("new: checksum", 0L, x::checksum);
        Check.due("new: load of more than there is", Check.ARGUMENT, () -> x.load(1));
        Check.due("new: add", 7, () -> x.add(3, 7));
        Check.due("new: tell", 2, () -> x.tell(1, 2));
    }

    private static void appending() {
        QuestLedger x = new QuestLedger();
        for (int n = 1; n <= 40; n++) {
            int length = 20 * n;
            Check.due("append " + n, length, () -> x.append(0x6c656467, 0x65723b20, 0x20202020, 0x20202020, 0x20202020));
        }
        Check.due("append over 800 bytes", -1, () -> x.append(0, 0, 0, 0, 0));
        Check.due("append over 800 bytes again", -1, () -> x.append(0, 0, 0, 0, 0));
        Check.due("load more than 800", Check.ARGUMENT, () -> x.load(801));
        Check.due("the first 20 bytes are as appended", 0, () -> x.load(20));
        Check.due("the buffer is empty then", 20, () -> x.append(0x6c656467, 0x65723b73, 0x65656435, 0x3b202020, 0x20202020));
        Check.due("load", 0, () -> x.load(20));
        Check.due("most significant byte first", 5, () -> x.state(7));
        x.append(0x6c656467, 0x65723bff, 0, 0, 0);
        Check.due("byte 255", SYNTAX, () -> x.load(20));
        Check.due("at 7", 7, x::errorOffset);
        String full = "ledger;stock 0 5" + " ".repeat(783) + ";";
        Check.due("a text of 800 bytes", 0, () -> Check.load(x, full));
        Check.due("its stock", 5, () -> x.stock(0));
        QuestLedger y = new QuestLedger();
        String sum = "ledger;quest 0 1;step 0 1;goal 0;worth 1" + "+1".repeat(379) + ";";
        Check.due("length", 799, sum::length);
        Check.due("a long sum", 1, () -> Check.load(y, sum));
        Check.due("its worth", 380, () -> y.worth(0));
    }

    private static void loading() {
        QuestLedger x = new QuestLedger();
        Check.due("load(-1)", Check.ARGUMENT, () -> x.load(-1));
        Check.due("load(0)", SYNTAX, () -> x.load(0));
        Check.due("at 0", 0, x::errorOffset);
        Check.append(x, "ledger;seed 12;quest 1 2;step 0 1;goal 0;");
        Check.due("load(61)", Check.ARGUMENT, () -> x.load(61));
        Check.due("load(MIN)", Check.ARGUMENT, () -> x.load(Integer.MIN_VALUE));
        Check.due("a load that threw tells no offset", 0, x::errorOffset);
        Check.due("and leaves the buffer", 80, () -> x.append(0x20202020, 0x20202020, 0x20202020, 0x20202020, 0x20202020));
        Check.due("load(80)", 1, () -> x.load(80));
        Check.due("no error", -1, x::errorOffset);
        Check.due("no bytes are left", Check.ARGUMENT, () -> x.load(1));
        x.tell(3, 4);
        x.add(2, 9);
        x.giveUp(0);
        Check.due("an error", SYNTAX, () -> Check.load(x, "ledger;seed 12;stock 1 1;quest 1 2;step 0 1;goal x;"));
        Check.due("its offset", 49, x::errorOffset);
        Check.due("the buffer is empty", Check.ARGUMENT, () -> x.load(1));
        Check.due("an error changes nothing else: queue", 2, () -> x.state(6));
        Check.due("an error changes nothing else: stock", 9, () -> x.stock(2));
        Check.due("an error changes nothing else: told stock", 0, () -> x.stock(1));
        Check.due("an error changes nothing else: seed", 12, () -> x.state(7));
        Check.due("an error changes nothing else: lost", 1, () -> x.state(3));
        Check.due("an error is no change", 3, x::undo);
        x.giveUp(0);
        Check.due("a new text", 2, () -> Check.load(x, "ledger;stock 3 4;quest 1 2;step 0 1;goal 0;quest 0 0;step 0 1;goal 0;"));
        Check.due("all quests are open", 0, () -> x.state(3));
        Check.due("the queue is empty", 0, () -> x.state(6));
        Check.due("stock is replaced", 0, () -> x.stock(2));
        Check.due("stock is told", 4, () -> x.stock(3));
        Check.due("the seed is 0", 0, () -> x.state(7));
        Check.due("only the first bytes are read", 0, () -> {
            Check.append(x, "ledger; and more");
            return x.load(7);
        });
        Check.due("no quests any more", Check.INDEX, () -> x.quest(0, 0));
        QuestLedger y = new QuestLedger();
        Check.load(y, "ledger;worth 7;quest 0 3;step 0 1;goal 0;");
        Check.load(y, "ledger;quest 0 3;step 0 1;goal 0;");
        Check.due("the worth of an older text is gone", 3, () -> y.worth(0));
        Check.load(y, "ledger;quest 0 3;step 9 1 uses 0 1 needs 1 1 gives 2 2 costly;step 0 2 after 0;goal 0;");
        Check.load(y, "ledger;quest 0 3;step 0 1;step 0 1;goal 0;");
        Check.due("older uses are gone", 0, () -> y.amount(0, 0, 0, 0));
        Check.due("older needs are gone", 0, () -> y.amount(0, 0, 1, 1));
        Check.due("older gives are gone", 0, () -> y.amount(0, 0, 2, 2));
        Check.due("older costly is gone", 0, () -> y.step(0, 0, 5));
        Check.due("older after is gone", 0, () -> y.step(0, 1, 4));
        Check.due("older steps are gone", 2, () -> y.quest(0, 0));
        leftovers();
    }

    /** What an earlier load, a campaign or a question left behind does not come into the next text. */
    private static void leftovers() {
        QuestLedger x = Check.loaded("ledger;stock 2 5 3 1;quest 0 3;step 0 1;step 50 1;goal 0 and 1;quest 0 0;step 0 1;goal 0;");
        x.tell(0, 1);
        x.attempt(0, 0);
        x.giveUp(1);
        Check.due("one quest is left", 1, x::campaign);
        Check.due("a question", -1, () -> x.lacking(1, 4));
        Check.due("stock may be told again", 2, () -> Check.load(x, "ledger;stock 3 2;quest 0 3;step 0 1;goal 0;quest 0 0;step 0 1;goal 0;"));
        Check.due("stock that is not told", 0, () -> x.stock(2));
        Check.due("stock that is told", 2, () -> x.stock(3));
        Check.due("the queue", 0, () -> x.state(6));
        Check.due("one step each", 2, () -> x.state(1));
        Check.due("none is lost", 0, () -> x.state(3));
        Check.due("no step is done", 0, () -> x.state(4));
        Check.due("all can be done", 2, () -> x.state(8));
    }

    private static void good(String text, int quests) {
        QuestLedger x = new QuestLedger();
        Check.due(text, quests, () -> Check.load(x, text));
        Check.due(text + ": errorOffset", -1, x::errorOffset);
    }

    private static void bad(int error, String ahead, String behind) {
        QuestLedger x = new QuestLedger();
        String text = ahead + behind;
        Check.due(text, error, () -> Check.load(x, text));
        Check.due(text + ": errorOffset", ahead.length(), x::errorOffset);
    }

    private static void goodTexts() {
        good("ledger;", 0);
        good("   ledger   ;   ", 0);
        good("ledger;stock0 0 1 999;stock 7 5;seed9999;worth 1;", 0);
        good("ledger;stock 0000 00000000000000000000999;", 0);
        good("ledger;quest 7 99;step 100 9;goal 0;", 1);
        good("ledger;quest0 0;step0 1;goal0;", 1);
        good("ledger;quest 0 0;step 0 1 uses 0 1 7 99 uses 1 5needs 0 1 gives 0 1costly;step 1 1 after 0;goal 0;", 1);
        good("ledger;quest 0 0;step 0 1;step 0 1;step 0 1 costly after 0 after 1;"
            + "goal 0 or 1 and 2 or(0)and 6of(0,1 or 2,(1));", 1);
        good("ledger;quest 0 0;step 0 1;goal 1of(0)or((((0))));", 1);
        good("ledger;quest 0 0;step 0 1;goal 1 of(2 of(3 of(4 of(0,0,0),0)));", 1);
        good("ledger;worth((((1))))+((2)*(3))/length-risk*done+fails-reward/quest;", 0);
        good("ledger;quest 0 0;step 0 1;goal 0;worth 0;quest 0 0;step 0 1;goal 0;seed 0;stock 0 0;", 2);
        good("ledger;quest 0 0;step 0 1;step 0 1;step 0 1;step 0 1;step 0 1;step 0 1;goal 5;"
            + "quest 0 0;step 0 1;goal 0;".repeat(5), 6);
    }

    private static void syntaxErrors() {
        bad(SYNTAX, "", "");
        bad(SYNTAX, "   ", "");
        bad(SYNTAX, "", "ledgers;");
        bad(SYNTAX, "", "Ledger;");
        bad(SYNTAX, "ledger", "");
        bad(SYNTAX, "ledger  ", "");
        bad(SYNTAX, "ledger", "\n;");
        bad(SYNTAX, "ledger ", "5;");
        bad(SYNTAX, "ledger;", ";");
        bad(SYNTAX, "ledger;", "ledger;");
        bad(SYNTAX, "ledger;", "stocks 0 1;");
        bad(SYNTAX, "ledger;stock ", ";");
        bad(SYNTAX, "ledger;stock 0", ";");
        bad(SYNTAX, "ledger;stock 0 1 2", ";");
        bad(SYNTAX, "ledger;stock 0 ", "-1;");
        bad(SYNTAX, "ledger;stock 0 1", "");
        bad(SYNTAX, "ledger;stock 0 1     ", "");
        bad(SYNTAX, "ledger;stock 0 1 ", "seed 1;");
        bad(SYNTAX, "ledger;seed 1 ", "2;");
        bad(SYNTAX, "ledger;seed ", ";");
        bad(SYNTAX, "ledger;seed 1;", "seed 1;");
        bad(SYNTAX, "ledger;worth 1;", "worth 1;");
        bad(SYNTAX, "ledger;worth ", ";");
        bad(SYNTAX, "ledger;worth ", "steps;");
        bad(SYNTAX, "ledger;worth ", "goal;");
        bad(SYNTAX, "ledger;worth ", "-1;");
        bad(SYNTAX, "ledger;worth 1 ", "2;");
        bad(SYNTAX, "ledger;worth 1+", "+2;");
        bad(SYNTAX, "ledger;worth 1*", ";");
        bad(SYNTAX, "ledger;worth (1", ";");
        bad(SYNTAX, "ledger;worth (", ");");
        bad(SYNTAX, "ledger;worth 1", ");");
        bad(SYNTAX, "ledger;worth 1", "%2;");
        bad(SYNTAX, "ledger;worth ((((1", "(1)))));");
        bad(SYNTAX, "ledger;quest ", ";");
        bad(SYNTAX, "ledger;quest 0", ";");
        bad(SYNTAX, "ledger;quest 0 0 ", "0;");
        bad(SYNTAX, "ledger;quest 0 0;", "goal 0;");
        bad(SYNTAX, "ledger;quest 0 0;step 0 1;", "quest 0 0;");
        bad(SYNTAX, "ledger;quest 0 0;step 0 1;", "seed 0;");
        bad(SYNTAX, "ledger;quest 0 0;step 0 1;", "goalz 0;");
        bad(SYNTAX, "ledger;quest 0 0;step 0 1;", "goala 0;");
        bad(SYNTAX, "ledger;quest 0 0;step 0 1;goal", "Z 0;");
        bad(SYNTAX, "ledger;seed", "`5;");
        bad(SYNTAX, "ledger;seed", "{5;");
        bad(SYNTAX, "ledger;seed 5", ":");
        bad(SYNTAX, "ledger;seed ", "/5;");
        bad(SYNTAX, "ledger;seed", "\t5;");
        bad(SYNTAX, "ledger;seed", "\u00005;");
        bad(SYNTAX, "ledger;seed 5", "\u00a0;");
        bad(SYNTAX, "ledger;quest 0 0;step 0 1;", "");
        bad(SYNTAX, "ledger;quest 0 0;step ", ";");
        bad(SYNTAX, "ledger;quest 0 0;step 0", ";");
        bad(SYNTAX, "ledger;quest 0 0;step 0 1 ", "1;");
        bad(SYNTAX, "ledger;quest 0 0;step 0 1 uses", ";");
        bad(SYNTAX, "ledger;quest 0 0;step 0 1 uses 0", ";");
        bad(SYNTAX, "ledger;quest 0 0;step 0 1 needs ", "costly;");
        bad(SYNTAX, "ledger;quest 0 0;step 0 1 costly ", "0;");
        bad(SYNTAX, "ledger;quest 0 0;step 0 1 costly ", "costly;");
        bad(SYNTAX, "ledger;quest 0 0;step 0 1 costly uses 0 1 ", "costly;");
        bad(SYNTAX, "ledger;quest 0 0;step 0 1;step 0 1 after", ";");
        bad(SYNTAX, "ledger;quest 0 0;step 0 1;step 0 1 after 0", ",;");
        bad(SYNTAX, "ledger;quest 0 0;step 0 1 ", "usesneeds 0 1;");
        bad(SYNTAX, "ledger;quest 0 0;step 0 1;goal ", ";");
        bad(SYNTAX, "ledger;quest 0 0;step 0 1;goal 0", "");
        bad(SYNTAX, "ledger;quest 0 0;step 0 1;goal 0 ", "0;");
        bad(SYNTAX, "ledger;quest 0 0;step 0 1;goal 0 and", ";");
        bad(SYNTAX, "ledger;quest 0 0;step 0 1;goal 0 or ", "or 0;");
        bad(SYNTAX, "ledger;quest 0 0;step 0 1;goal 0 ", "andor 0;");
        bad(SYNTAX, "ledger;quest 0 0;step 0 1;goal (0", ";");
        bad(SYNTAX, "ledger;quest 0 0;step 0 1;goal (0", ",0);");
        bad(SYNTAX, "ledger;quest 0 0;step 0 1;goal (", ");");
        bad(SYNTAX, "ledger;quest 0 0;step 0 1;goal 1 of ", "0;");
        bad(SYNTAX, "ledger;quest 0 0;step 0 1;goal 1 of (", ");");
        bad(SYNTAX, "ledger;quest 0 0;step 0 1;goal 1 of (0,", ");");
        bad(SYNTAX, "ledger;quest 0 0;step 0 1;goal 1 of (0,0", ";");
        bad(SYNTAX, "ledger;quest 0 0;step 0 1;goal 0 ", "off (0);");
        bad(SYNTAX, "ledger;quest 0 0;step 0 1;goal ", "of (0);");
        bad(SYNTAX, "ledger;quest 0 0;step 0 1;goal 0", "(0);");
        bad(SYNTAX, "ledger;quest 0 0;step 0 1;goal ((((0", "(0)))));");
        bad(SYNTAX, "ledger;quest 0 0;step 0 1;goal 0;", "step 0 1;");
        bad(SYNTAX, "ledger;" + "quest 0 0;step 0 1;goal 0;".repeat(6) + "seed 0 ", "quest 0 0;");
    }

    private static void numbersOutOfRange() {
        bad(RANGE, "ledger;stock ", "8 0;");
        bad(RANGE, "ledger;stock 0 ", "1000;");
        bad(RANGE, "ledger;stock 0 ", "99999999999999999999;");
        bad(RANGE, "ledger;stock 0 ", "4294967296;");
        bad(RANGE, "ledger;stock ", "18446744073709551616 0;");
        bad(RANGE, "ledger;stock 0 ", "0001000 x");
        bad(RANGE, "ledger;seed ", "10000;");
        bad(RANGE, "ledger;worth ", "10000;");
        bad(RANGE, "ledger;worth 1+(", "10000;");
        bad(RANGE, "ledger;quest ", "8 0;");
        bad(RANGE, "ledger;quest 0 ", "100;");
        bad(RANGE, "ledger;quest 0 0;step ", "101 1;");
        bad(RANGE, "ledger;quest 0 0;step 0 ", "0;");
        bad(RANGE, "ledger;quest 0 0;step 0 ", "10;");
        for (String word : new String[] {"uses", "needs", "gives"}) {
            bad(RANGE, "ledger;quest 0 0;step 0 1 " + word + " ", "8 1;");
            bad(RANGE, "ledger;quest 0 0;step 0 1 " + word + " 0 ", "0;");
            bad(RANGE, "ledger;quest 0 0;step 0 1 " + word + " 0 ", "100;");
        }
        bad(RANGE, "ledger;quest 0 0;step 0 1 after ", "0;");
        bad(RANGE, "ledger;quest 0 0;step 0 1;step 0 1 after ", "1;");
        bad(RANGE, "ledger;quest 0 0;step 0 1;step 0 1 after 0 ", "2;");
        bad(RANGE, "ledger;quest 0 0;step 0 1;goal 0;quest 0 0;step 0 1 after ", "0;");
        bad(RANGE, "ledger;quest 0 0;step 0 1;goal ", "1;");
        bad(RANGE, "ledger;quest 0 0;step 0 1;step 0 1;goal 1 or ", "2 x");
        bad(RANGE, "ledger;quest 0 0;step 0 1;goal ", "0 of (0);");
        bad(RANGE, "ledger;quest 0 0;step 0 1;goal ", "7 of (0);");
        bad(RANGE, "ledger;quest 0 0;step 0 1;goal ", "7 of x");
        bad(RANGE, "ledger;quest 0 0;step 0 1;goal 1 of (0,", "1);");
        bad(RANGE, "ledger;quest 0 0;step 0 1;goal ", "6 off (0);");
    }

    private static void repetitions() {
        bad(TWICE, "ledger;stock 0 0 ", "0 0;");
        bad(TWICE, "ledger;stock 0 0 1 1;stock 2 0 ", "1 1;");
        bad(TWICE, "ledger;stock 0 0 ", "0 1000;");
        bad(TWICE, "ledger;stock 0 0 ", "0;");
        for (String word : new String[] {"uses", "needs", "gives"}) {
            bad(TWICE, "ledger;quest 0 0;step 0 1 " + word + " 0 1 ", "0 1;");
            bad(TWICE, "ledger;quest 0 0;step 0 1 " + word + " 7 1 1 1 costly " + word + " 2 1 ", "007 0;");
        }
        good("ledger;quest 0 0;step 0 1 uses 0 1 needs 0 1 gives 0 1;step 0 1 uses 0 1;goal 0;", 1);
        bad(TWICE, "ledger;quest 0 0;step 0 1;step 0 1 after 0 ", "0;");
        bad(TWICE, "ledger;quest 0 0;step 0 1;step 0 1;step 0 1 after 1 after 0 ", "1;");
    }

    private static void tooMany() {
        String quest = "quest 0 0;step 0 1;goal 0;";
        bad(MANY, "ledger;" + quest.repeat(6), quest);
        bad(MANY, "ledger;" + quest.repeat(6) + "  ", "quest");
        bad(MANY, "ledger;" + quest.repeat(5) + "quest 0 0;" + "step 0 1;".repeat(6), "step x");
        bad(SYNTAX, "ledger;" + quest.repeat(6), "quests");
    }

    private static void tooDeep() {
        String quest = "ledger;quest 0 0;step 0 1;goal ";
        bad(DEEP, quest + "((((", "(0)))));");
        bad(DEEP, quest + "1 of (1 of (1 of (0,1 of (1 of ", "(0)))));");
        bad(DEEP, quest + "(1 of ((0 or 1 of(", "(x");
        bad(DEEP, "ledger;worth ((((", "(1)))));");
        bad(DEEP, "ledger;worth 1+(2*(3-(4/(5+", "((1)))));");
        good("ledger;worth ((((1)+(1))+((1)))+(((1))));", 0);
        good("ledger;quest 0 0;step 0 1;goal ((((0)or(0))and((0)))or(((0))));", 1);
        bad(RANGE, quest + "((((", "7 of (0);");
    }
}
