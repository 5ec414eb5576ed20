import java.util.ArrayList;
import java.util.List;
import java.util.Random;

/** Random runs of calls, each answer of which is compared with the model's; the seeds are fixed. */
public final class ModelTest {
    private static final int RUNS = 1500;
    private static final int TEXTS = 60000;
    private static final int CALLS = 512;

    private final QuestLedger ledger = new QuestLedger();
    private final Model model = new Model();
    private final Random random;
    private final Texts texts;
    private final int run;
    private final List<String> done = new ArrayList<>();
    private int calls = 0;

    private ModelTest(int run) {
        this.run = run;
        this.random = new Random(run);
        this.texts = new Texts(random);
    }

    public static void main(String[] args) {
        for (int text = 0; text < TEXTS; text++) {
            compareText(text);
        }
        for (int run = 0; run < RUNS; run++) {
            new ModelTest(run).compareCalls();
        }
        Check.end();
    }

    private static void compareText(int seed) {
        ModelTest test = new ModelTest(-1 - seed);
        test.loadText(seed % 4 == 0 ? test.texts.good() : test.texts.damaged());
        test.compare("checksum()", test.model::checksum, test.ledger::checksum);
    }

    private void compare(String call, Check.Call due, Check.Call got) {
        calls++;
        done.add(call);
        Object want = Check.answerOf(due);
        String before = done.size() > 60 ? ".." + done.subList(done.size() - 40, done.size()) : "" + done;
        Check.due("run " + run + " " + before, want, got);
    }

    private void loadText(String text) {
        for (int from = 0; from < text.length(); from += 20) {
            int[] w = new int[5];
            for (int k = 0; k < 20; k++) {
                w[k / 4] = w[k / 4] << 8 | (from + k < text.length() ? text.charAt(from + k) & 255 : ' ');
            }
            compare("append", () -> model.append(w), () -> ledger.append(w[0], w[1], w[2], w[3], w[4]));
        }
        compare("load [" + text + "]", () -> model.load(text.length()), () -> ledger.load(text.length()));
        compare("errorOffset", model::errorOffset, ledger::errorOffset);
    }

    private int below(int bound) {
        return random.nextInt(bound);
    }

    /** Mostly a number below the bound, seldom one outside. */
    private int index(int bound) {
        int[] outside = {-1, bound, bound + 1, Integer.MIN_VALUE, Integer.MAX_VALUE};
        return bound <= 0 || below(40) == 0 ? outside[below(5)] : below(bound);
    }

    private void compareCalls() {
        loadText(texts.good());
        while (calls < CALLS - 45) {
            int kind = below(100);
            if (kind < 1) {
                loadText(below(3) == 0 ? texts.damaged() : texts.good());
            } else if (kind < 40) {
                ask(below(22));
            } else {
                change(below(13));
            }
            if (below(4) == 0) {
                compare("checksum()", model::checksum, ledger::checksum);
            }
        }
    }

    private void ask(int kind) {
        int q = index(model.state(0));
        int s = index(q >= 0 && q < model.state(0) ? model.quest(q, 0) : 0);
        int item = index(8);
        int what = index(10) - 1;
        String place = "(" + q + ", " + s + ", " + item + ", " + what + ")";
        switch (kind) {
            case 0: compare("state" + place, () -> model.state(what), () -> ledger.state(what)); break;
            case 1: compare("stock" + place, () -> model.stock(item), () -> ledger.stock(item)); break;
            case 2: compare("quest" + place, () -> model.quest(q, what), () -> ledger.quest(q, what)); break;
            case 3: compare("step" + place, () -> model.step(q, s, what), () -> ledger.step(q, s, what)); break;
            case 4: compare("amount" + place, () -> model.amount(q, s, item, what % 4), () -> ledger.amount(q, s, item, what % 4)); break;
            case 5: compare("why" + place, () -> model.why(q, s), () -> ledger.why(q, s)); break;
            case 6: {
                int set = index(64);
                compare("holds(" + q + ", " + set + ")", () -> model.holds(q, set), () -> ledger.holds(q, set));
                break;
            }
            case 7: compare("possible" + place, () -> model.possible(q), () -> ledger.possible(q)); break;
            case 8: compare("planLength" + place, () -> model.planLength(q), () -> ledger.planLength(q)); break;
            case 9: case 10: compare("planStep" + place, () -> model.planStep(q, s), () -> ledger.planStep(q, s)); break;
            case 11: compare("safest" + place, () -> model.safest(q), () -> ledger.safest(q)); break;
            case 12: compare("endings" + place, () -> model.endings(q), () -> ledger.endings(q)); break;
            case 13: case 14: compare("lacking" + place, () -> model.lacking(q, item), () -> ledger.lacking(q, item)); break;
            case 15: compare("campaign()", model::campaign, ledger::campaign); break;
            case 16: compare("worth" + place, () -> model.worth(q), () -> ledger.worth(q)); break;
            case 17: compare("best()", model::best, ledger::best); break;
            case 18: compare("chance" + place, () -> model.chance(q), () -> ledger.chance(q)); break;
            case 19: compare("progress()", model::progress, ledger::progress); break;
            case 20: compare("load(0)", () -> model.load(-1), () -> ledger.load(-1)); break;
            default: compare("errorOffset()", model::errorOffset, ledger::errorOffset); break;
        }
    }

    private void change(int kind) {
        int q = index(model.state(0));
        int s = index(q >= 0 && q < model.state(0) ? model.quest(q, 0) : 0);
        int item = index(8);
        int amount = below(3) == 0 ? 1 + index(999) : 1 + below(4);
        int a = index(100);
        int b = index(100);
        String place = "(" + q + ", " + s + ")";
        String move = "(" + item + ", " + amount + ")";
        switch (kind) {
            case 0: compare("tell(" + a + ", " + b + ")", () -> model.tell(a, b), () -> ledger.tell(a, b)); break;
            case 1: case 2: case 3: case 4: case 5:
                compare("attempt" + place, () -> model.attempt(q, s), () -> ledger.attempt(q, s)); break;
            case 6: if (below(3) == 0) {
                compare("play(" + q + ")", () -> model.play(q), () -> ledger.play(q));
            } break;
            case 7: compare("add" + move, () -> model.add(item, amount), () -> ledger.add(item, amount)); break;
            case 8: compare("spend" + move, () -> model.spend(item, amount), () -> ledger.spend(item, amount)); break;
            case 9: compare("mend" + place, () -> model.mend(q, s), () -> ledger.mend(q, s)); break;
            case 10: if (below(4) == 0) {
                compare("giveUp(" + q + ")", () -> model.giveUp(q), () -> ledger.giveUp(q));
            } break;
            case 11: compare("reopen(" + q + ")", () -> model.reopen(q), () -> ledger.reopen(q)); break;
            default:
                for (int n = below(4); n >= 0; n--) {
                    compare("undo()", model::undo, ledger::undo);
                }
                break;
        }
    }
}
