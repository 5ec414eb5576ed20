import java.util.ArrayList;
import java.util.List;
import java.util.function.Function;
import java.util.function.Supplier;

/** Calls that throw, on objects of which much is to be seen; what a look at all of it tells before and behind them. */
final class Refusals {
    static final int LOOKS_AT_DATA = 2;
    private static final int LOOKS = 3;
    private static final int[] BESIDE_QUESTS = {-1, 4, 6, Integer.MIN_VALUE, Integer.MAX_VALUE};
    private static final int[] BESIDE_STEPS = {-1, 3, 6, Integer.MIN_VALUE, Integer.MAX_VALUE};
    private static final int[] BESIDE_ITEMS = {-1, 8, Integer.MIN_VALUE, Integer.MAX_VALUE};

    private record Refused(String what, String exception, Function<QuestLedger, Object> call) {
    }

    private Refusals() {
    }

    /** Quest 0 and 1 are open, 2 is done and 3 lost; two draws, an error's offset and a text of 20 bytes are there. */
    static QuestLedger wellUsed() {
        QuestLedger x = Setup.of("stock 0 9 1 1;seed 7;worth risk*7+quest;",
            Setup.rewarded(1, 5, "0 and 1 or 2", "50 9 uses 0 2 gives 2 3 costly", "50 1 uses 0 1", "0 1 after 0 1"),
            Setup.rewarded(2, 1, "0", "50 3"), Setup.quest("0", "0 1"), Setup.quest("0", "0 1"));
        x.tell(49, 50);
        x.tell(60, 3);
        x.attempt(0, 0);
        x.add(4, 4);
        x.play(2);
        x.giveUp(3);
        Check.load(x, "ledger;stock 1 x;");
        Check.append(x, "ledger;stock 6 66;");
        return x;
    }

    private static QuestLedger withFullQueue() {
        QuestLedger x = wellUsed();
        for (int n = 0; n < 19; n++) {
            x.tell(n, 99 - n);
        }
        return x;
    }

    /** What is to be seen by undoing all that can be undone, by trying steps, or by loading the text that waits. */
    static String look(QuestLedger x, int kind) {
        StringBuilder seen = new StringBuilder(x.checksum() + "");
        if (kind == 0) {
            for (int n = 0; n < 10; n++) {
                seen.append(" ").append(x.undo()).append(" ").append(x.checksum());
            }
        } else if (kind == 1) {
            for (int n = 0; n < 50; n++) {
                int quest = n % 3 == 2 ? 1 : 0;
                int step = n % 3 == 1 ? 1 : 0;
                x.reopen(quest);
                x.add(0, 3);
                seen.append(" ").append(x.attempt(quest, step)).append(" ").append(x.state(6));
            }
            seen.append(" ").append(x.checksum());
        } else {
            seen.append(" ").append(x.errorOffset()).append(" ").append(Check.answerOf(() -> x.load(21)));
            seen.append(" ").append(x.append(0x78787878, 0, 0, 0, 0)).append(" ").append(Check.answerOf(() -> x.load(20)));
            seen.append(" ").append(x.stock(6)).append(" ").append(x.errorOffset());
        }
        return seen.toString();
    }

    static void leaveAll() {
        for (Refused refused : ofIndexes()) {
            leavesAll(Refusals::wellUsed, refused);
        }
        for (Refused refused : ofNumbers()) {
            leavesAll(Refusals::wellUsed, refused);
        }
        for (Refused refused : ofStates()) {
            leavesAll(Refusals::wellUsed, refused);
        }
        leavesAll(Refusals::withFullQueue, new Refused("tell to a full queue", Check.STATE, x -> x.tell(1, 2)));
        leavesAll(Refusals::withFullQueue, new Refused("tell of 100 to a full queue", Check.ARGUMENT, x -> x.tell(1, 100)));
        leavesAll(QuestLedger::new, new Refused("load of a new object", Check.ARGUMENT, x -> x.load(1)), 0);
        leavesAll(QuestLedger::new, new Refused("spend of a new object", Check.STATE, x -> x.spend(0, 1)), 0);
    }

    private static void leavesAll(Supplier<QuestLedger> made, Refused refused) {
        for (int kind = 0; kind < LOOKS; kind++) {
            leavesAll(made, refused, kind);
        }
    }

    private static void leavesAll(Supplier<QuestLedger> made, Refused refused, int kind) {
        QuestLedger x = made.get();
        Check.due(refused.what, refused.exception, () -> refused.call.apply(x));
        Check.due("all behind " + refused.what, look(made.get(), kind), () -> look(x, kind));
    }

    private static List<Refused> ofIndexes() {
        List<Refused> all = new ArrayList<>();
        for (int q : BESIDE_QUESTS) {
            withQuest(all, q);
            withStep(all, q, 0);
        }
        for (int s : BESIDE_STEPS) {
            withStep(all, 0, s);
        }
        for (int i : BESIDE_ITEMS) {
            all.add(new Refused("stock", Check.INDEX, x -> x.stock(i)));
            all.add(new Refused("amount", Check.INDEX, x -> x.amount(0, 0, i, 0)));
            all.add(new Refused("lacking", Check.INDEX, x -> x.lacking(0, i)));
            all.add(new Refused("add", Check.INDEX, x -> x.add(i, 1)));
            all.add(new Refused("spend", Check.INDEX, x -> x.spend(i, 1)));
        }
        return all;
    }

    private static void withQuest(List<Refused> all, int q) {
        all.add(new Refused("quest", Check.INDEX, x -> x.quest(q, 0)));
        all.add(new Refused("holds", Check.INDEX, x -> x.holds(q, 0)));
        all.add(new Refused("possible", Check.INDEX, x -> x.possible(q)));
        all.add(new Refused("planLength", Check.INDEX, x -> x.planLength(q)));
        all.add(new Refused("planStep", Check.INDEX, x -> x.planStep(q, 0)));
        all.add(new Refused("safest", Check.INDEX, x -> x.safest(q)));
        all.add(new Refused("endings", Check.INDEX, x -> x.endings(q)));
        all.add(new Refused("lacking", Check.INDEX, x -> x.lacking(q, 0)));
        all.add(new Refused("worth", Check.INDEX, x -> x.worth(q)));
        all.add(new Refused("chance", Check.INDEX, x -> x.chance(q)));
        all.add(new Refused("play", Check.INDEX, x -> x.play(q)));
        all.add(new Refused("giveUp", Check.INDEX, x -> x.giveUp(q)));
        all.add(new Refused("reopen", Check.INDEX, x -> x.reopen(q)));
    }

    private static void withStep(List<Refused> all, int q, int s) {
        all.add(new Refused("step", Check.INDEX, x -> x.step(q, s, 0)));
        all.add(new Refused("amount", Check.INDEX, x -> x.amount(q, s, 0, 0)));
        all.add(new Refused("why", Check.INDEX, x -> x.why(q, s)));
        all.add(new Refused("attempt", Check.INDEX, x -> x.attempt(q, s)));
        all.add(new Refused("mend", Check.INDEX, x -> x.mend(q, s)));
    }

    private static List<Refused> ofNumbers() {
        List<Refused> all = new ArrayList<>();
        for (int edge : Setup.OFF_THE_EDGE) {
            addNumbers(all, edge, edge, edge, edge, edge);
        }
        addNumbers(all, -1, -1, -1, 0, -1);
        addNumbers(all, 9, 64, 100, 1000, 21);
        return all;
    }

    private static void addNumbers(List<Refused> all, int what, int steps, int draw, int amount, int length) {
        all.add(new Refused("load " + length, Check.ARGUMENT, x -> x.load(length)));
        all.add(new Refused("state " + what, Check.ARGUMENT, x -> x.state(what)));
        all.add(new Refused("quest " + what, Check.ARGUMENT, x -> x.quest(0, what)));
        all.add(new Refused("step " + what, Check.ARGUMENT, x -> x.step(0, 0, what)));
        all.add(new Refused("amount " + what, Check.ARGUMENT, x -> x.amount(0, 0, 0, what)));
        all.add(new Refused("holds " + steps, Check.ARGUMENT, x -> x.holds(0, steps)));
        all.add(new Refused("planStep " + what, Check.ELEMENT, x -> x.planStep(0, what)));
        all.add(new Refused("tell a " + draw, Check.ARGUMENT, x -> x.tell(draw, 0)));
        all.add(new Refused("tell b " + draw, Check.ARGUMENT, x -> x.tell(0, draw)));
        all.add(new Refused("add " + amount, Check.ARGUMENT, x -> x.add(0, amount)));
        all.add(new Refused("spend " + amount, Check.ARGUMENT, x -> x.spend(0, amount)));
    }

    private static List<Refused> ofStates() {
        List<Refused> all = new ArrayList<>();
        all.add(new Refused("a try behind what is not done", Check.STATE, x -> x.attempt(0, 2)));
        all.add(new Refused("a try in a done quest", Check.STATE, x -> x.attempt(2, 0)));
        all.add(new Refused("a try in a lost quest", Check.STATE, x -> x.attempt(3, 0)));
        all.add(new Refused("giving up a done quest", Check.STATE, x -> x.giveUp(2)));
        all.add(new Refused("giving up a lost quest", Check.STATE, x -> x.giveUp(3)));
        all.add(new Refused("spending more than there is", Check.STATE, x -> x.spend(0, 8)));
        all.add(new Refused("spending what there is none of", Check.STATE, x -> x.spend(7, 1)));
        all.add(new Refused("a step of the plan of a done quest", Check.ELEMENT, x -> x.planStep(2, 0)));
        return all;
    }
}
