import java.math.BigInteger;
import java.util.ArrayList;
import java.util.List;
import java.util.function.Consumer;

/** The sentences of "Changes" and of promises 23 to 32 that name a boundary. */
final class ChangesBounds {
    private static final String TERMS = "Terms";
    private static final String NO_QUEST = "Throws `IndexOutOfBoundsException` if there is no such quest";
    private static final String NO_STEP = "Throws `IndexOutOfBoundsException` if there is no such quest or step";
    private static final String NO_ITEM = "Throws `IndexOutOfBoundsException` if there is no such item";
    private static final String AMOUNT = "Throws `IllegalArgumentException` if amount is out of range";
    private static final String FIVE = "ledger;stock 0 5;" + Setup.quest("0 and 1", "50 2", "50 2") + Setup.quest("0", "50 1");

    private ChangesBounds() {
    }

    static void all() {
        changes();
        exceptions();
        tell();
        attempt();
        play();
        add();
        spend();
        mend();
        giveUp();
        reopen();
        undo();
        checksum();
    }

    private static void changes() {
        Sentence.test(TERMS, "The changing methods are load (when it succeeds), tell, attempt, play, add, spend, mend, giveUp and reopen;",
            ChangesBounds::changingMethods);
        Sentence.test(TERMS, "each such call that does not throw an exception is a change, also if all data stay as they were.", ChangesBounds::dataStay);
        Sentence.test(TERMS, "The latest 8 changes can be undone, the latest one first;", ChangesBounds::latestEight);
        Sentence.test(TERMS, "a change is final as soon as 8 later ones, none of them undone, have been made.", ChangesBounds::finalChanges);
        Sentence.test(TERMS, "Before the first successful load there are no quests, all stocks and the seed are 0, and the queue is empty.",
            ChangesBounds::beforeLoad);
    }

    /** How many changes can be undone behind the calls; the text itself is the first change. */
    private static void undoable(String what, int due, Consumer<QuestLedger> calls) {
        QuestLedger x = Check.loaded(FIVE);
        calls.accept(x);
        int undone = 0;
        while (undone < 20 && x.undo() >= 0) {
            undone++;
        }
        int changes = undone;
        Check.due("changes by " + what, due, () -> changes - 1);
        Check.due("all is undone by " + what, 0L, x::checksum);
    }

    private static void changingMethods() {
        undoable("load", 1, x -> Check.load(x, "ledger;"));
        undoable("a load with an error", 0, x -> Check.load(x, "ledger"));
        undoable("tell", 1, x -> x.tell(0, 0));
        undoable("attempt", 1, x -> x.attempt(0, 0));
        undoable("play", 1, x -> x.play(0));
        undoable("add", 1, x -> x.add(0, 1));
        undoable("spend", 1, x -> x.spend(0, 1));
        undoable("mend", 1, x -> x.mend(0, 0));
        undoable("giveUp", 1, x -> x.giveUp(0));
        undoable("reopen", 1, x -> x.reopen(0));
        undoable("append", 0, x -> x.append(0, 0, 0, 0, 0));
        undoable("undo", 0, x -> {
            x.add(0, 1);
            x.undo();
        });
        undoable("questions", 0, x -> {
            x.errorOffset();
            x.state(8);
            x.stock(0);
            x.quest(0, 7);
            x.step(0, 0, 0);
            x.amount(0, 0, 0, 0);
            x.why(0, 0);
            x.holds(0, 0);
            x.possible(0);
            x.planLength(0);
            x.planStep(0, 0);
            x.safest(0);
            x.endings(0);
            x.lacking(0, 0);
            x.campaign();
            x.worth(0);
            x.best();
            x.chance(0);
            x.progress();
            x.checksum();
        });
    }

    private static void dataStay() {
        undoable("the same text", 1, x -> Check.load(x, FIVE));
        undoable("mend of a step without fails", 1, x -> x.mend(0, 0));
        undoable("reopen of a quest that is as at first", 1, x -> x.reopen(0));
        undoable("play of a lost quest", 2, x -> {
            x.giveUp(0);
            x.play(0);
        });
        undoable("add and spend", 2, x -> {
            x.add(0, 1);
            x.spend(0, 1);
        });
        undoable("eight times nothing", 7, x -> {
            for (int n = 0; n < 7; n++) {
                x.mend(1, 0);
            }
        });
        QuestLedger y = Check.loaded("ledger;");
        for (int n = 0; n < 8; n++) {
            Check.due("the same text", 0, () -> Check.load(y, "ledger;"));
        }
        Check.due("eight changes", 7, y::undo);
    }

    private static void latestEight() {
        for (int count = 0; count <= 12; count++) {
            QuestLedger x = new QuestLedger();
            for (int n = 1; n <= count; n++) {
                x.add(0, n);
            }
            int stock = count * (count + 1) / 2;
            int left = Math.min(8, count);
            for (int n = count; left > 0; n--) {
                left--;
                stock -= n;
                int dueLeft = left;
                int dueStock = stock;
                Check.due("undo of change " + n + " of " + count, dueLeft, x::undo);
                Check.due("stock without change " + n, dueStock, () -> x.stock(0));
            }
            int rest = stock;
            Check.due("no more than 8 of " + count, -1, x::undo);
            Check.due("the stock stays", rest, () -> x.stock(0));
        }
    }

    private static void finalChanges() {
        finalAfter("8 changes", "12345678", "12345678");
        finalAfter("9 changes", "123456789", "23456789");
        finalAfter("4 of 8 undone, and 4 more", "12345678uuuu5678", "12345678");
        finalAfter("1 of 8 undone, and 2 more", "12345678u89", "23456789");
        finalAfter("all undone, and 8 more", "12345678uuuuuuuu12345678", "12345678");
        finalAfter("what is final stays so", "123456789u", "2345678");
        finalAfter("what is final stays so", "123456789uuuuuuuu2", "2");
        finalAfter("what is final stays so", "123456789uuuuuuuuuuu2345", "2345");
        finalAfter("7 later ones each, many times", "12345678u8u8u8u8u8", "12345678");
        finalAfter("17 changes", "123456781234567812345678".substring(0, 17), "23456781");
        finalAfter("undo of none", "u1u1", "1");
    }

    /** A digit adds so much, u undoes; what can be undone in the end is told as the row of the amounts. */
    private static void finalAfter(String what, String calls, String undoable) {
        QuestLedger x = new QuestLedger();
        for (int k = 0; k < calls.length(); k++) {
            if (calls.charAt(k) == 'u') {
                x.undo();
            } else {
                x.add(0, calls.charAt(k) - '0');
            }
        }
        for (int k = undoable.length() - 1; k >= 0; k--) {
            int left = k;
            int stock = x.stock(0) - (undoable.charAt(k) - '0');
            Check.due(what + ": undo of " + undoable.charAt(k), left, x::undo);
            Check.due(what + ": its stock", stock, () -> x.stock(0));
        }
        Check.due(what + ": no more", -1, x::undo);
    }

    private static void beforeLoad() {
        QuestLedger x = new QuestLedger();
        for (int round = 0; round < 2; round++) {
            for (int item = 0; item < 8; item++) {
                int asked = item;
                Check.due("stock " + item, 0, () -> x.stock(asked));
            }
            Check.due("quests", 0, () -> x.state(0));
            Check.due("no quest 0", Check.INDEX, () -> x.quest(0, 0));
            Check.due("the queue", 0, () -> x.state(6));
            Check.due("the seed", 0, () -> x.state(7));
            Check.load(x, "ledger;stock 0 5;seed 6;" + Setup.quest("0", "0 1") + "x");
        }
        Check.due("an error is no successful load", 24 + 26, x::errorOffset);
        Check.due("a stock", 1, () -> x.add(7, 1));
        Check.due("a queue", 2, () -> x.tell(1, 2));
        Check.due("to undo", "1 0 -1", () -> x.undo() + " " + x.undo() + " " + x.undo());
        QuestLedger y = Setup.of("stock 0 5;seed 6;", Setup.quest("0", "0 1"));
        Check.due("before the undone load", "0 0 0 0", () -> y.undo() + " " + y.state(0) + " " + y.stock(0) + " " + y.state(7));
    }

    private static void exceptions() {
        Sentence.test(TERMS, "In the methods, IndexOutOfBoundsException is thrown if a parameter named item, quest or step is not the index of such a thing "
            + "(step is a step of quest).", ChangesBounds::noSuchThing);
        Sentence.test(TERMS, "If several exceptions apply to a call, the one that comes first in the method's throws list is thrown.",
            ChangesBounds::severalExceptions);
        Sentence.test(TERMS, "A method that throws an exception changes nothing.", Refusals::leaveAll);
    }

    /** Quest 0 has three steps, quest 1 has one: a step of one quest need not be one of another. */
    private static void noSuchThing() {
        QuestLedger x = Setup.of(Setup.quest("0", Setup.times(3, "0 1")), Setup.quest("0", "0 1"));
        for (int step = 1; step <= 3; step++) {
            int asked = step;
            int of = step < 3 ? 1 : 0;
            Check.due("step", Check.INDEX, () -> x.step(of, asked, 0));
            Check.due("amount", Check.INDEX, () -> x.amount(of, asked, 0, 0));
            Check.due("why", Check.INDEX, () -> x.why(of, asked));
            Check.due("attempt", Check.INDEX, () -> x.attempt(of, asked));
            Check.due("mend", Check.INDEX, () -> x.mend(of, asked));
        }
        Check.due("the last step of quest 0", "0 0 0 1 0",
            () -> x.step(0, 2, 0) + " " + x.amount(0, 2, 7, 2) + " " + x.why(0, 2) + " " + x.attempt(0, 2) + " " + x.mend(0, 2));
        Check.due("k is no step", Check.ELEMENT, () -> x.planStep(1, 1));
        Check.due("steps are no step", false, () -> x.holds(1, 62));
        Check.due("what is no quest", Check.ARGUMENT, () -> x.state(9));
    }

    private static void severalExceptions() {
        QuestLedger x = Check.loaded(FIVE);
        x.giveUp(1);
        for (int n = 0; n < 20; n++) {
            x.tell(0, 0);
        }
        Check.due("quest: quest and what", Check.INDEX, () -> x.quest(2, 8));
        Check.due("step: quest and what", Check.INDEX, () -> x.step(2, 0, 6));
        Check.due("step: step and what", Check.INDEX, () -> x.step(0, 2, -1));
        Check.due("amount: quest and what", Check.INDEX, () -> x.amount(-1, 0, 0, 3));
        Check.due("amount: step and what", Check.INDEX, () -> x.amount(0, 2, 0, 3));
        Check.due("amount: item and what", Check.INDEX, () -> x.amount(0, 0, 8, -1));
        Check.due("amount: all", Check.INDEX, () -> x.amount(2, 2, 8, 3));
        Check.due("holds: quest and steps", Check.INDEX, () -> x.holds(2, 64));
        Check.due("planStep: quest and k", Check.INDEX, () -> x.planStep(2, -1));
        Check.due("tell: a and a full queue", Check.ARGUMENT, () -> x.tell(100, 0));
        Check.due("tell: b and a full queue", Check.ARGUMENT, () -> x.tell(0, -1));
        Check.due("attempt: a step that there is not, of a lost quest", Check.INDEX, () -> x.attempt(1, 1));
        Check.due("add: item and amount", Check.INDEX, () -> x.add(8, 0));
        Check.due("add: item and amount", Check.INDEX, () -> x.add(-1, 1000));
        Check.due("spend: item and amount", Check.INDEX, () -> x.spend(8, 0));
        Check.due("spend: item, and less", Check.INDEX, () -> x.spend(8, 999));
        Check.due("spend: amount, and less", Check.ARGUMENT, () -> x.spend(0, 1000));
        Check.due("spend: amount, and none", Check.ARGUMENT, () -> x.spend(1, 0));
        Check.due("giveUp: no quest is not open either", Check.INDEX, () -> x.giveUp(2));
    }

    private static void tell() {
        String section = "Promise 23";
        Sentence.test(section, "`a`: 0 to 99", () -> Setup.range("a", 0, 99, Check.ARGUMENT, a -> new QuestLedger().tell(a, 50)));
        Sentence.test(section, "`b`: 0 to 99", () -> Setup.range("b", 0, 99, Check.ARGUMENT, b -> new QuestLedger().tell(50, b)));
        Sentence.test(section, "Tells two draws: they come to the end of the queue, a first.", ChangesBounds::aFirst);
        Sentence.test(section, "Returns how many numbers are in the queue then.", ChangesBounds::howMany);
        Sentence.test(section, "Throws `IllegalArgumentException` if a or b is out of range", () -> {
            QuestLedger x = new QuestLedger();
            for (int bad : new int[] {-1, 100, Integer.MIN_VALUE, Integer.MAX_VALUE}) {
                Check.due("a " + bad, Check.ARGUMENT, () -> x.tell(bad, 0));
                Check.due("b " + bad, Check.ARGUMENT, () -> x.tell(99, bad));
                Check.due("both " + bad, Check.ARGUMENT, () -> x.tell(bad, bad));
            }
            Check.due("none is in the queue", 0, () -> x.state(6));
        });
        Sentence.test(section, "Throws `IllegalStateException` if there would be more than 40", ChangesBounds::fullQueue);
    }

    private static void aFirst() {
        QuestLedger x = Setup.of(Setup.quest("6 of (0,1,2,3,4,5)", Setup.times(6, "50 9")));
        x.tell(50, 49);
        x.tell(0, 99);
        int[] due = {1, 0, 0, 1};
        for (int n = 0; n < 4; n++) {
            int step = n;
            Check.due("draw " + n, due[n], () -> x.attempt(0, step));
        }
        QuestLedger y = Setup.of(Setup.quest("0", "99 9"), Setup.quest("0", "1 1"));
        y.tell(99, 0);
        Check.due("99 is the greatest draw", 2, () -> y.attempt(0, 0));
        Check.due("0 is the least draw", 3, () -> y.attempt(1, 0));
    }

    private static void howMany() {
        QuestLedger x = Setup.of(Setup.quest("0", "100 9"));
        for (int n = 1; n <= 20; n++) {
            int due = 2 * n;
            Check.due("tell " + n, due, () -> x.tell(0, 99));
        }
        QuestLedger y = Setup.of(Setup.quest("0", "100 9"));
        y.tell(0, 0);
        y.attempt(0, 0);
        Check.due("one was left", 3, () -> y.tell(0, 0));
        y.undo();
        Check.due("one was left", 3, () -> y.tell(0, 0));
    }

    private static void fullQueue() {
        QuestLedger x = Setup.of(Setup.quest("0", "100 9"));
        for (int n = 0; n < 20; n++) {
            x.tell(0, 0);
        }
        Check.due("40", 40, () -> x.state(6));
        Check.due("42 are too many", Check.STATE, () -> x.tell(0, 0));
        x.attempt(0, 0);
        Check.due("39", 39, () -> x.state(6));
        Check.due("41 are too many", Check.STATE, () -> x.tell(0, 0));
        x.attempt(0, 0);
        Check.due("40 are not", 40, () -> x.tell(0, 0));
        Check.due("42 are too many", Check.STATE, () -> x.tell(0, 0));
        x.undo();
        Check.due("40 are not", 40, () -> x.tell(0, 0));
    }

    private static void attempt() {
        String section = "Promise 24";
        Sentence.test(section, "Returns 0 if it fails, 1 if it succeeds, 2 if the quest is done by it, 3 if the quest is lost by it.", () -> {
            QuestLedger x = Setup.of(Setup.quest("0 and 1", "50 2", "50 2"));
            x.tell(49, 50);
            x.tell(50, 0);
            Check.due("fails", 0, () -> x.attempt(0, 0));
            Check.due("succeeds", 1, () -> x.attempt(0, 0));
            Check.due("the quest is done by it", 2, () -> x.attempt(0, 1));
            x.undo();
            x.undo();
            x.tell(0, 0);
            Check.due("as before", 1, () -> x.attempt(0, 0));
            Check.due("as before", 2, () -> x.attempt(0, 1));
            x.reopen(0);
            Check.due("fails", 0, () -> x.attempt(0, 1));
            Check.due("the quest is lost by it", 3, () -> x.attempt(0, 1));
            QuestLedger y = Setup.of(Setup.quest("0", "0 1", "0 1"));
            Check.due("a step that the goal is without", 1, () -> y.attempt(0, 1));
            Check.due("the one of the goal", 2, () -> y.attempt(0, 0));
        });
        Sentence.test(section, NO_STEP, () -> AskBounds.noSuchStep((x, quest, step) -> x.attempt(quest, step)));
        Sentence.test(section, "Throws `IllegalStateException` if it cannot be tried", () -> {
            QuestLedger x = Setup.of(Setup.quest("0", "0 1"), Setup.quest("0 or 1", "0 1", "100 1", "0 1 after 0", "0 1 uses 0 1"),
                Setup.quest("0", "0 1"), Setup.quest("0 and 1", "0 1", "0 1"));
            x.attempt(0, 0);
            Check.due("its quest is done", Check.STATE, () -> x.attempt(0, 0));
            x.attempt(1, 1);
            Check.due("it is broken", Check.STATE, () -> x.attempt(1, 1));
            Check.due("a step ahead of it is not done", Check.STATE, () -> x.attempt(1, 2));
            Check.due("an item is lacking", Check.STATE, () -> x.attempt(1, 3));
            x.giveUp(2);
            Check.due("its quest is lost", Check.STATE, () -> x.attempt(2, 0));
            x.attempt(3, 0);
            Check.due("it is done", Check.STATE, () -> x.attempt(3, 0));
        });
    }

    private static void play() {
        String section = "Promise 25";
        Sentence.test(section, "again and again the first step of its plan, as it is then, is tried, until the quest is not possible any more "
            + "(as it is not if it is done or lost).", ChangesBounds::untilNotPossible);
        Sentence.test(section, "Returns the number of tries.", ChangesBounds::numberOfTries);
        Sentence.test(section, NO_QUEST, () -> AskBounds.noSuchQuest((x, quest) -> x.play(quest)));
    }

    private static void untilNotPossible() {
        QuestLedger x = Setup.of("stock 0 2;", Setup.quest("0", "100 9 uses 0 1 costly"), Setup.quest("0", "100 9"), Setup.quest("0", "0 1"),
            Setup.quest("0 or 1 and 2", "100 1", "0 1", "0 1"), Setup.quest("2 of (0)", "0 1"));
        Check.due("until items are lacking", 2, () -> x.play(0));
        Check.due("still open", 0, () -> x.quest(0, 1));
        Check.due("until it is lost", 9, () -> x.play(1));
        Check.due("lost", 2, () -> x.quest(1, 1));
        Check.due("until it is done", 1, () -> x.play(2));
        Check.due("done", 1, () -> x.quest(2, 1));
        Check.due("another plan when the first one is away", 3, () -> x.play(3));
        Check.due("the other steps", 6, () -> x.quest(3, 2));
        Check.due("never possible", 0, () -> x.play(4));
        for (int k = 0; k < 5; k++) {
            int quest = k;
            Check.due("not possible any more", 0, () -> x.play(quest));
        }
        x.add(0, 1);
        Check.due("possible again", 1, () -> x.play(0));
    }

    private static void numberOfTries() {
        QuestLedger x = Setup.of(Setup.quest("1 of (0,1,2,3,4,5)", Setup.times(6, "100 9")), Setup.quest("6 of (0,1,2,3,4,5)", Setup.times(6, "50 9")),
            Setup.quest("0", "50 1"), Setup.quest("0", "50 1"));
        Check.due("the most fails", 54, () -> x.play(0));
        Check.due("none", 0, () -> x.play(0));
        x.tell(49, 99);
        x.tell(0, 50);
        for (int n = 0; n < 4; n++) {
            x.tell(50, 50);
        }
        Check.due("two fails and six successes", 8, () -> x.play(1));
        Check.due("four numbers are left", 4, () -> x.state(6));
        Check.due("done", 1, () -> x.quest(1, 1));
        Check.due("one success", 1, () -> x.play(2));
        x.play(2);
        Check.due("three numbers are left", 3, () -> x.state(6));
        for (int n = 0; n < 3; n++) {
            x.reopen(2);
            x.play(2);
        }
        Check.due("an empty queue", 0, () -> x.state(6));
    }

    private static void add() {
        String section = "Promise 26";
        Sentence.test(section, "`amount`: 1 to 999, which is added to its stock", () -> {
            Setup.range("amount", 1, 999, Check.ARGUMENT, amount -> new QuestLedger().add(0, amount));
            QuestLedger x = Setup.of("stock 3 999;");
            x.add(3, 1);
            x.add(7, 999);
            Check.due("stocks", "0 1000 0 999", () -> x.stock(2) + " " + x.stock(3) + " " + x.stock(4) + " " + x.stock(7));
        });
        Sentence.test(section, "Returns its stock then.", () -> {
            QuestLedger x = Setup.of("stock 3 999;");
            Check.due("of none", 1, () -> x.add(0, 1));
            Check.due("above 999", 1998, () -> x.add(3, 999));
            for (int n = 1; n <= 500; n++) {
                int due = 1998 + 999 * n;
                Check.due("add " + n, due, () -> x.add(3, 999));
            }
        });
        Sentence.test(section, NO_ITEM, () -> AskBounds.noSuchItem(item -> new QuestLedger().add(item, 1)));
        Sentence.test(section, AMOUNT, () -> {
            QuestLedger x = new QuestLedger();
            Setup.beside("amount", 1, 999, Check.ARGUMENT, amount -> x.add(7, amount));
            Check.due("nothing is added", 0, () -> x.stock(7));
        });
        Sentence.test(section, "Throws `IllegalStateException` if the stock would be greater than 1000000", () -> {
            // 512 calls do not come to this bound; the class keeps it in calls that are not promised any more, too.
            QuestLedger x = new QuestLedger();
            for (int n = 0; n < 1001; n++) {
                x.add(0, 999);
            }
            Check.due("1000001 is too much", Check.STATE, () -> x.add(0, 2));
            Check.due("an amount out of range comes first", Check.ARGUMENT, () -> x.add(0, 1000));
            Check.due("1000000 is not", 1000000, () -> x.add(0, 1));
            Check.due("1000001 is too much", Check.STATE, () -> x.add(0, 1));
            Check.due("another item", 999, () -> x.add(1, 999));
        });
    }

    private static void spend() {
        String section = "Promise 27";
        Sentence.test(section, "`amount`: 1 to 999, which is taken from its stock", () -> {
            Setup.range("amount", 1, 999, Check.ARGUMENT, amount -> Setup.of("stock 0 999;").spend(0, amount));
            QuestLedger x = Setup.of("stock 0 5 1 5 2 5;");
            x.spend(1, 2);
            Check.due("stocks", "5 3 5", () -> x.stock(0) + " " + x.stock(1) + " " + x.stock(2));
        });
        Sentence.test(section, "Returns its stock then.", () -> {
            QuestLedger x = Setup.of("stock 0 999 7 2;");
            Check.due("one", 998, () -> x.spend(0, 1));
            Check.due("all", 0, () -> x.spend(0, 998));
            Check.due("of the last item", 1, () -> x.spend(7, 1));
        });
        Sentence.test(section, NO_ITEM, () -> AskBounds.noSuchItem(item -> Setup.of("stock 0 1 7 1;").spend(item, 1)));
        Sentence.test(section, AMOUNT, () -> {
            QuestLedger x = Setup.of("stock 7 999;");
            x.add(7, 999);
            Setup.beside("amount", 1, 999, Check.ARGUMENT, amount -> x.spend(7, amount));
            Check.due("nothing is taken", 1998, () -> x.stock(7));
        });
        Sentence.test(section, "Throws `IllegalStateException` if there is less", () -> {
            QuestLedger x = Setup.of("stock 0 5 1 998;");
            Check.due("one more than there is", Check.STATE, () -> x.spend(0, 6));
            Check.due("the most", Check.STATE, () -> x.spend(1, 999));
            Check.due("just what there is", 0, () -> x.spend(0, 5));
            Check.due("none is left", Check.STATE, () -> x.spend(0, 1));
            Check.due("of a new object", Check.STATE, () -> new QuestLedger().spend(7, 1));
        });
    }

    private static void mend() {
        String section = "Promise 28";
        Sentence.test(section, "Mends a step: it has no fails any more (a lost quest stays lost).", () -> {
            QuestLedger x = Setup.of(Setup.quest("0 or 1", "100 2", "100 1"), Setup.quest("0 and 1", "50 2", "100 9"));
            x.attempt(0, 0);
            x.attempt(0, 0);
            x.mend(0, 0);
            Check.due("no fails, not broken", "0 0 0", () -> x.step(0, 0, 2) + " " + x.quest(0, 3) + " " + x.why(0, 0));
            Check.due("1 breaks, 0 is left", 0, () -> x.attempt(0, 1));
            Check.due("another step keeps its fails", 1, () -> x.step(0, 1, 2));
            x.attempt(0, 0);
            Check.due("both are broken", 3, () -> x.attempt(0, 0));
            x.mend(0, 0);
            x.mend(0, 1);
            Check.due("lost", "2 1 0", () -> x.quest(0, 1) + " " + x.why(0, 0) + " " + x.quest(0, 3));
            x.tell(0, 50);
            x.attempt(1, 0);
            x.attempt(1, 0);
            x.mend(1, 0);
            Check.due("what is done stays done", "0 1", () -> x.step(1, 0, 2) + " " + x.step(1, 0, 3));
        });
        Sentence.test(section, "Returns the number of its fails before.", () -> {
            QuestLedger x = Setup.of(Setup.quest("1", "100 9", "0 1"));
            for (int fails = 0; fails <= 9; fails++) {
                int due = fails;
                for (int n = 0; n < fails; n++) {
                    x.attempt(0, 0);
                }
                Check.due("fails", due, () -> x.mend(0, 0));
                Check.due("none", 0, () -> x.mend(0, 0));
            }
        });
        Sentence.test(section, NO_STEP, () -> AskBounds.noSuchStep((x, quest, step) -> x.mend(quest, step)));
    }

    private static void giveUp() {
        String section = "Promise 29";
        Sentence.test(section, "Gives an open quest up: it is lost.", () -> {
            QuestLedger x = Setup.of(Setup.rewarded(0, 9, "0", "0 1"), Setup.quest("0", "0 1"));
            x.giveUp(0);
            Check.due("lost", "2 1 0", () -> x.quest(0, 1) + " " + x.state(3) + " " + x.quest(1, 1));
            Check.due("no reward", 0, () -> x.stock(0));
        });
        Sentence.test(section, "Returns the set of its steps that are done.", () -> {
            QuestLedger x = Setup.of(Setup.quest("6 of (0,1,2,3,4,5)", Setup.times(6, "0 1")), Setup.quest("0", "0 1"));
            for (int step = 5; step >= 1; step--) {
                x.attempt(0, step);
            }
            Check.due("all but the first", 62, () -> x.giveUp(0));
            Check.due("they stay done", 62, () -> x.quest(0, 2));
            Check.due("none", 0, () -> x.giveUp(1));
        });
        Sentence.test(section, NO_QUEST, () -> AskBounds.noSuchQuest((x, quest) -> x.giveUp(quest)));
        Sentence.test(section, "Throws `IllegalStateException` if it is not open", () -> {
            QuestLedger x = Setup.of(Setup.quest("0", "0 1"), Setup.quest("0", "100 1"), Setup.quest("0", "0 1"));
            x.attempt(0, 0);
            x.attempt(1, 0);
            x.giveUp(2);
            for (int k = 0; k < 3; k++) {
                int quest = k;
                Check.due("quest " + k, Check.STATE, () -> x.giveUp(quest));
                Check.due("its state", quest == 0 ? 1 : 2, () -> x.quest(quest, 1));
                x.reopen(quest);
                Check.due("open again", 0, () -> x.giveUp(quest));
            }
        });
    }

    private static void reopen() {
        String section = "Promise 30";
        Sentence.test(section, "Begins a quest anew: it is open, none of its steps is done or has fails (the stock stays).", () -> {
            QuestLedger x = Setup.of("stock 0 9;", Setup.rewarded(1, 5, "6 of (0,1,2,3,4,5)", Setup.times(6, "50 2 uses 0 1 costly")), Setup.quest("0", "0 1"));
            x.tell(99, 0);
            for (int n = 0; n < 5; n++) {
                x.tell(99, 99);
            }
            x.play(1);
            x.attempt(0, 0);
            x.reopen(0);
            Check.due("not the one fail", "0 0 0 0 63", () -> x.quest(0, 1) + " " + x.quest(0, 2) + " " + x.quest(0, 3) + " " + x.quest(0, 6) + " " + x.quest(0, 7));
            x.play(0);
            Check.due("done, and rewarded", "1 63 5 2", () -> x.quest(0, 1) + " " + x.quest(0, 2) + " " + x.stock(1) + " " + x.stock(0));
            x.reopen(0);
            Check.due("open, none done", "0 0 0", () -> x.quest(0, 1) + " " + x.quest(0, 2) + " " + x.quest(0, 6));
            Check.due("the stock stays", "5 2", () -> x.stock(1) + " " + x.stock(0));
            Check.due("another quest stays done", 1, () -> x.quest(1, 1));
            QuestLedger y = Setup.of(Setup.quest("0", "100 1"));
            y.attempt(0, 0);
            y.reopen(0);
            Check.due("not broken", "0 0 0 1", () -> y.quest(0, 3) + " " + y.step(0, 0, 2) + " " + y.why(0, 0) + " " + y.quest(0, 7));
            Check.due("lost again", 3, () -> y.attempt(0, 0));
        });
        Sentence.test(section, "Returns what it was before: 0 open, 1 done, 2 lost.", () -> {
            QuestLedger x = Setup.of(Setup.quest("0", "0 1"), Setup.quest("0", "100 1"), Setup.quest("0", "0 1"), Setup.quest("0", "0 1"));
            x.attempt(0, 0);
            x.attempt(1, 0);
            x.giveUp(2);
            int[] due = {1, 2, 2, 0};
            for (int k = 0; k < 4; k++) {
                int quest = k;
                Check.due("quest " + k, due[k], () -> x.reopen(quest));
                Check.due("open", 0, () -> x.reopen(quest));
            }
        });
        Sentence.test(section, NO_QUEST, () -> AskBounds.noSuchQuest((x, quest) -> x.reopen(quest)));
    }

    private static void undo() {
        String section = "Promise 31";
        Sentence.test(section, "Undoes the latest change that is not final and has not been undone.", ChangesBounds::latestChange);
        Sentence.test(section, "The input buffer and the error offset are not affected.", ChangesBounds::notAffected);
        Sentence.test(section, "Returns the number of changes that can still be undone;", () -> {
            for (int count = 1; count <= 10; count++) {
                QuestLedger x = new QuestLedger();
                for (int n = 0; n < count; n++) {
                    x.tell(0, 0);
                }
                for (int left = Math.min(8, count) - 1; left >= 0; left--) {
                    int due = left;
                    Check.due("of " + count, due, x::undo);
                }
            }
        });
        Sentence.test(section, "-1 if there was none to undo, and nothing changes then.", () -> {
            Check.due("a new object", -1, new QuestLedger()::undo);
            QuestLedger x = Refusals.wellUsed();
            QuestLedger y = Refusals.wellUsed();
            for (int n = 0; n < 8; n++) {
                x.undo();
                y.undo();
            }
            long due = x.checksum();
            for (int n = 0; n < 10; n++) {
                Check.due("none", -1, x::undo);
                Check.due("nothing changes", due, x::checksum);
            }
            Check.due("the next change", "6 0 -1", () -> x.add(0, 6) + " " + x.undo() + " " + x.undo());
            Check.due("the same object", Refusals.look(y, 2), () -> Refusals.look(x, 2));
        });
    }

    private static void latestChange() {
        QuestLedger x = Setup.of("stock 0 9;seed 7;worth fails*10+quest;", Setup.rewarded(1, 5, "0 and 1", "50 9 uses 0 2 costly", "50 9"), Setup.quest("0", "50 1"));
        long[] before = new long[9];
        before[0] = x.checksum();
        x.tell(0, 99);
        before[1] = x.checksum();
        x.attempt(0, 0);
        before[2] = x.checksum();
        x.mend(0, 0);
        before[3] = x.checksum();
        x.attempt(0, 0);
        before[4] = x.checksum();
        x.attempt(1, 0);
        before[5] = x.checksum();
        x.giveUp(0);
        before[6] = x.checksum();
        Check.load(x, "ledger;stock 1 1;" + Setup.quest("0", "1 1 uses 0 5", "2 2"));
        before[7] = x.checksum();
        x.add(0, 8);
        for (int n = 7; n >= 0; n--) {
            int left = n;
            long due = before[n];
            Check.due("undo " + n, left, x::undo);
            Check.due("all is as it was", due, x::checksum);
        }
        Check.due("the load was the ninth", -1, x::undo);
        Check.due("the seed draws as at first", 7, () -> x.state(7));
        x.tell(0, 99);
        Check.due("the draws as at first", "0 1", () -> x.attempt(0, 0) + " " + x.attempt(0, 0));
        x.undo();
        Check.due("a draw that came back", "1 1", () -> x.state(6) + " " + x.attempt(0, 0));
        x.undo();
        x.undo();
        Check.due("two draws that came back", "2 0 1", () -> x.state(6) + " " + x.attempt(0, 0) + " " + x.attempt(0, 0));
    }

    private static void notAffected() {
        QuestLedger x = new QuestLedger();
        Check.load(x, "ledger;stock 0 5;");
        Check.load(x, "ledger;x");
        Check.append(x, "ledger;stock 1 6;");
        Check.due("undo of a load", 0, x::undo);
        Check.due("the offset stays", 7, x::errorOffset);
        Check.due("the buffer stays", 40, () -> x.append(0, 0, 0, 0, 0));
        Check.due("it can be loaded", 0, () -> x.load(20));
        Check.due("its stock", 6, () -> x.stock(1));
        Check.due("undo of a load", 0, x::undo);
        Check.due("the offset of the undone load", -1, x::errorOffset);
        Check.due("the text does not come back", Check.ARGUMENT, () -> x.load(1));
        Check.due("its length", 20, () -> x.append(0, 0, 0, 0, 0));
        Check.due("undo of none", -1, x::undo);
        Check.due("the buffer stays", 40, () -> x.append(0, 0, 0, 0, 0));
    }

    private static void checksum() {
        String section = "Promise 32";
        Sentence.test(section, "It starts at 0;", () -> {
            Check.due("a new object", 0L, new QuestLedger()::checksum);
            QuestLedger x = new QuestLedger();
            x.add(7, 5);
            Check.due("only the last number is not 0", 5L, x::checksum);
        });
        Sentence.test(section, "each number n in the following order replaces it by 31 * checksum + n, wrapping around on overflow of a long:",
            ChangesBounds::wraps);
        Sentence.test(section, "state(0) to state(8);", () -> {
            QuestLedger x = Setup.of("seed 9999;");
            Check.due("the seed is the number before the last one", BigInteger.valueOf(9999).multiply(BigInteger.valueOf(31).pow(9)).longValue(), x::checksum);
            x.tell(0, 0);
            Check.due("the queue is ahead of it", 9999 * power(9) + 2 * power(10), x::checksum);
        });
        Sentence.test(section, "stock(0) to stock(7);", () -> {
            for (int item = 0; item < 8; item++) {
                int place = item;
                QuestLedger x = Setup.of("stock " + item + " 999;");
                Check.due("stock " + item, 999 * power(7 - place), x::checksum);
            }
        });
        Sentence.test(section, "for each quest what quest(int, int) tells of it for 0 to 7, its worth, and then for each of its steps what "
            + "step(int, int, int) tells of it for 0 to 5.", () -> {
                QuestLedger x = Setup.of("stock 0 2;worth 77;", Setup.rewarded(7, 99, "0 or 1", "100 9 costly", "3 2 after 0"), Setup.rewarded(2, 4, "0", "5 6"));
                long[] numbers = {2, 3, 0, 0, 0, 0, 0, 0, 2, 2, 0, 0, 0, 0, 0, 0, 0, 2, 0, 0, 0, 7, 99, 0, 1, 77, 100, 9, 0, 0, 0, 1, 3, 2, 0, 0, 1, 0,
                    1, 0, 0, 0, 2, 4, 0, 1, 77, 5, 6, 0, 0, 0, 0};
                Check.due("numbers told one by one", wrapped(numbers), x::checksum);
            });
    }

    private static long power(int n) {
        return BigInteger.valueOf(31).pow(n).longValue();
    }

    private static long wrapped(long[] numbers) {
        BigInteger sum = BigInteger.ZERO;
        for (long number : numbers) {
            sum = sum.multiply(BigInteger.valueOf(31)).add(BigInteger.valueOf(number));
        }
        return sum.longValue();
    }

    private static void wraps() {
        QuestLedger x = Setup.of("stock 0 999 1 998;seed 9999;", Setup.rewarded(7, 99, "6 of (0,1,2,3,4,5)", Setup.times(6, "100 9 costly")).repeat(3));
        x.attempt(2, 5);
        List<Long> numbers = new ArrayList<>();
        for (int what = 0; what <= 8; what++) {
            numbers.add((long) x.state(what));
        }
        for (int item = 0; item < 8; item++) {
            numbers.add((long) x.stock(item));
        }
        for (int quest = 0; quest < 3; quest++) {
            for (int what = 0; what <= 7; what++) {
                numbers.add((long) x.quest(quest, what));
            }
            numbers.add((long) x.worth(quest));
            for (int step = 0; step < 6; step++) {
                for (int what = 0; what <= 5; what++) {
                    numbers.add((long) x.step(quest, step, what));
                }
            }
        }
        long due = wrapped(numbers.stream().mapToLong(Long::longValue).toArray());
        Check.due("more than 150 numbers", due, x::checksum);
        Check.due("the numbers", 9 + 8 + 3 * (8 + 1 + 36), numbers::size);
        QuestLedger y = Setup.of("stock 0 1;", Setup.quest("0", "0 1"));
        long[] few = {1, 1, 0, 0, 0, 0, 0, 0, 1, 1, 0, 0, 0, 0, 0, 0, 0, 1, 0, 0, 0, 0, 0, 0, 1, 0, 0, 1, 0, 0, 0, 0};
        Check.due("a sum that wraps, number by number", wrapped(few), y::checksum);
    }
}
