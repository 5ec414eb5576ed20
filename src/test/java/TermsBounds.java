/** The sentences of "What it is" and of "Terms" that name a boundary: items and quests, trying, ways and worth. */
final class TermsBounds {
    private static final String TERMS = "Terms";
    private static final String SIX = "6 of (0,1,2,3,4,5)";

    private TermsBounds() {
    }

    static void all() {
        Sentence.test("What it is", "An object is used for at most 512 calls after it has been made;", TermsBounds::calls);
        Sentence.test(TERMS, "A set of steps is a number: the sum of 2^k over its steps k.", TermsBounds::sets);
        itemsAndQuests();
        trying();
        ways();
        worth();
    }

    private static void calls() {
        QuestLedger x = new QuestLedger();
        for (int n = 1; n <= 503; n++) {
            int due = n;
            Check.due("call " + n, due, () -> x.add(0, 1));
        }
        for (int left = 7; left >= 0; left--) {
            int due = left;
            Check.due("call " + (511 - left), due, x::undo);
        }
        Check.due("call 512", -1, x::undo);
        QuestLedger y = new QuestLedger();
        for (int n = 1; n <= 512; n++) {
            int due = n <= 40 ? 20 * n : -1;
            Check.due("append " + n, due, () -> y.append(0, 0, 0, 0, 0));
        }
    }

    private static void sets() {
        QuestLedger x = Setup.of(Setup.quest(SIX, "0 1", "0 1", "0 1", "0 1", "0 1", "0 1 after 0 1 2 3 4"));
        Check.due("none is done", 0, () -> x.quest(0, 2));
        Check.due("five can be tried", 31, () -> x.quest(0, 7));
        Check.due("five are ahead of the last one", 31, () -> x.step(0, 5, 4));
        Check.due("none is ahead of the first one", 0, () -> x.step(0, 0, 4));
        int due = 0;
        for (int step = 0; step < 6; step++) {
            due += 1 << step;
            x.attempt(0, step);
            int set = due;
            Check.due("done up to " + step, set, () -> x.quest(0, 2));
        }
        Check.due("all", 63, () -> x.quest(0, 2));
        QuestLedger y = Setup.of(Setup.quest("1 of (0,1,2,3,4,5)", Setup.times(6, "100 1")));
        y.attempt(0, 5);
        Check.due("the last one is broken", 32, () -> y.quest(0, 3));
        Check.due("it cannot be tried", 31, () -> y.quest(0, 7));
        y.play(0);
        Check.due("all are broken", 63, () -> y.quest(0, 3));
    }

    private static void itemsAndQuests() {
        Sentence.test(TERMS, "There are 8 items, with indexes from 0;", TermsBounds::items);
        Sentence.test(TERMS, "of each one there is a stock, 0 or more.", TermsBounds::stocks);
        Sentence.test(TERMS, "There are at most 6 quests, with indexes from 0.", TermsBounds::quests);
        Sentence.test(TERMS, "A quest has 1 to 6 steps, with indexes from 0, a goal,", TermsBounds::steps);
        Sentence.test(TERMS, "and a reward: an amount (0 to 99) of an item.", TermsBounds::rewards);
        Sentence.test(TERMS, "A quest is open, done or lost.", TermsBounds::states);
        Sentence.test(TERMS, "A step has a risk (0 to 100), a limit (1 to 9), perhaps amounts (1 to 99 each)", TermsBounds::stepNumbers);
        Sentence.test(TERMS, "it has a number of fails (0 at first), and it is broken if that is its limit.", TermsBounds::breaking);
        Sentence.test(TERMS, "'and' holds if both sides hold, 'or' if at least one does;", TermsBounds::andOr);
        Sentence.test(TERMS, "'n of (..)' holds if at least n of the goals in the parentheses hold", TermsBounds::atLeast);
        Sentence.test(TERMS, "(each counts for itself, also like ones).", TermsBounds::likeGoals);
    }

    private static void items() {
        QuestLedger x = Setup.of("stock 0 10 1 11 2 12 3 13 4 14 5 15 6 16 7 17;");
        for (int item = 0; item < 8; item++) {
            int asked = item;
            Check.due("stock " + item, 10 + item, () -> x.stock(asked));
        }
        Setup.beside("stock", 0, 7, Check.INDEX, x::stock);
        Setup.bad(QuestLedger.OUT_OF_RANGE, "ledger;stock 7 1 ", "8 1;");
        for (int item = 0; item < 8; item++) {
            int used = item;
            QuestLedger y = Setup.of("stock " + item + " 5;", Setup.rewarded(item, 7, "0", "0 1 uses " + item + " 5 gives " + item + " 3"));
            y.attempt(0, 0);
            Check.due("uses, gives and reward of " + item, 10, () -> y.stock(used));
        }
    }

    private static void stocks() {
        QuestLedger x = Setup.of("stock 0 5 1 4 2 3;", Setup.quest("2", "0 1 uses 1 4", "100 2 uses 2 3 costly", "0 1"));
        Check.due("the last ones are spent", 0, () -> x.spend(0, 5));
        Check.due("no more", Check.STATE, () -> x.spend(0, 1));
        Check.due("not below 0", 0, () -> x.stock(0));
        Check.due("the last ones are used", 1, () -> x.attempt(0, 0));
        Check.due("none is left", 0, () -> x.stock(1));
        Check.due("the last ones are lost by a fail", 0, () -> x.attempt(0, 1));
        Check.due("none is left", 0, () -> x.stock(2));
        Check.due("not again", Check.STATE, () -> x.attempt(0, 1));
        Check.due("not below 0", 0, () -> x.stock(2));
    }

    private static void quests() {
        for (int count = 0; count <= 6; count++) {
            int due = count;
            String[] quests = new String[count];
            for (int k = 0; k < count; k++) {
                quests[k] = Setup.rewarded(0, 20 + k, "0", "0 1");
            }
            QuestLedger x = Setup.of(quests);
            Check.due("quests", due, () -> x.state(0));
            for (int k = 0; k < count; k++) {
                int asked = k;
                Check.due("reward of " + k + " of " + count, 20 + k, () -> x.quest(asked, 5));
            }
            Setup.beside("quest of " + count, 0, count - 1, Check.INDEX, quest -> x.quest(quest, 5));
        }
        Setup.bad(QuestLedger.TOO_MANY, "ledger;" + Setup.quest("0", "0 1").repeat(6), Setup.quest("0", "0 1"));
    }

    private static void steps() {
        Setup.bad(QuestLedger.SYNTAX_ERROR, "ledger;quest 0 0;", "goal 0;");
        for (int count = 1; count <= 6; count++) {
            int due = count;
            String[] steps = new String[count];
            for (int k = 0; k < count; k++) {
                steps[k] = 10 + k + " 1";
            }
            QuestLedger x = Setup.of(Setup.quest("0", steps));
            Check.due("steps", due, () -> x.quest(0, 0));
            for (int k = 0; k < count; k++) {
                int asked = k;
                Check.due("risk of " + k + " of " + count, 10 + k, () -> x.step(0, asked, 0));
            }
            Setup.beside("step of " + count, 0, count - 1, Check.INDEX, step -> x.step(0, step, 0));
        }
        Setup.bad(QuestLedger.TOO_MANY, "ledger;quest 0 0;" + "step 0 1;".repeat(6), "step 0 1;goal 0;");
    }

    private static void rewards() {
        QuestLedger x = Setup.of(Setup.rewarded(0, 0, "0", "0 1"), Setup.rewarded(7, 99, "0", "0 1"));
        Check.due("the smallest amount", 0, () -> x.quest(0, 5));
        Check.due("the greatest amount", 99, () -> x.quest(1, 5));
        Check.due("the first item", 0, () -> x.quest(0, 4));
        Check.due("the last item", 7, () -> x.quest(1, 4));
        Check.due("done", 2, () -> x.attempt(0, 0));
        Check.due("done", 2, () -> x.attempt(1, 0));
        Check.due("a reward of 0", 0, () -> x.stock(0));
        Check.due("a reward of 99", 99, () -> x.stock(7));
        Setup.bad(QuestLedger.OUT_OF_RANGE, "ledger;quest 7 ", "100;step 0 1;goal 0;");
        Setup.bad(QuestLedger.OUT_OF_RANGE, "ledger;quest ", "8 99;step 0 1;goal 0;");
    }

    private static void states() {
        QuestLedger x = Setup.of(Setup.quest("0", "0 1"), Setup.quest("0", "0 1"), Setup.quest("0", "100 1"), Setup.quest("0", "0 1"));
        x.attempt(1, 0);
        x.attempt(2, 0);
        x.giveUp(3);
        int[] due = {0, 1, 2, 2};
        for (int k = 0; k < 4; k++) {
            int quest = k;
            Check.due("quest " + k, due[k], () -> x.quest(quest, 1));
        }
    }

    private static void stepNumbers() {
        QuestLedger x = Setup.of(Setup.quest("0", "0 1 uses 0 1 needs 1 1 gives 2 1", "100 9 uses 7 99 needs 6 99 gives 5 99 costly after 0"));
        int[][] due = {{0, 1, 0, 0, 0, 0}, {100, 9, 0, 0, 1, 1}};
        for (int step = 0; step < 2; step++) {
            for (int what = 0; what < 6; what++) {
                int s = step;
                int w = what;
                Check.due("step " + step + " what " + what, due[step][what], () -> x.step(0, s, w));
            }
            for (int what = 0; what < 3; what++) {
                int s = step;
                int w = what;
                Check.due("amount " + what + " of " + step, step == 0 ? 1 : 99, () -> x.amount(0, s, s == 0 ? w : 7 - w, w));
            }
        }
        Setup.bad(QuestLedger.OUT_OF_RANGE, "ledger;quest 0 0;step ", "101 1;goal 0;");
        Setup.bad(QuestLedger.OUT_OF_RANGE, "ledger;quest 0 0;step 0 ", "0;goal 0;");
        Setup.bad(QuestLedger.OUT_OF_RANGE, "ledger;quest 0 0;step 0 ", "10;goal 0;");
        for (String word : new String[] {"uses", "needs", "gives"}) {
            Setup.bad(QuestLedger.OUT_OF_RANGE, "ledger;quest 0 0;step 0 1 " + word + " 0 ", "0;goal 0;");
            Setup.bad(QuestLedger.OUT_OF_RANGE, "ledger;quest 0 0;step 0 1 " + word + " 7 ", "100;goal 0;");
        }
    }

    private static void breaking() {
        for (int limit = 1; limit <= 9; limit++) {
            int most = limit;
            QuestLedger x = Setup.of(Setup.quest("1", "100 " + limit, "0 1"));
            for (int fails = 0; fails < limit; fails++) {
                int due = fails;
                Check.due(fails + " fails of " + limit, due, () -> x.step(0, 0, 2));
                Check.due("not broken by " + fails + " of " + limit, 0, () -> x.quest(0, 3));
                Check.due("can be tried", 0, () -> x.why(0, 0));
                Check.due("fails", 0, () -> x.attempt(0, 0));
            }
            Check.due("its limit", most, () -> x.step(0, 0, 2));
            Check.due("broken by " + limit, 1, () -> x.quest(0, 3));
            Check.due("why", 3, () -> x.why(0, 0));
            Check.due("cannot be tried", Check.STATE, () -> x.attempt(0, 0));
        }
    }

    private static void andOr() {
        QuestLedger x = Setup.of(Setup.quest("0 and 1", "0 1", "0 1"), Setup.quest("0 or 1", "0 1", "0 1"),
            Setup.quest("0 and 1 or 2 and 3", Setup.times(4, "0 1")), Setup.quest("0 and (1 or 2) and 3", Setup.times(4, "0 1")),
            Setup.quest("0 or 1 or 2 or 3", Setup.times(4, "0 1")), Setup.quest("0 and 1 and 2 and 3", Setup.times(4, "0 1")));
        for (int steps = 0; steps < 16; steps++) {
            int set = steps;
            boolean a = set % 2 == 1;
            boolean b = set / 2 % 2 == 1;
            boolean c = set / 4 % 2 == 1;
            boolean d = set / 8 == 1;
            Check.due("and " + set, a && b, () -> x.holds(0, set));
            Check.due("or " + set, a || b, () -> x.holds(1, set));
            Check.due("and binds closer " + set, a && b || c && d, () -> x.holds(2, set));
            Check.due("parentheses " + set, a && (b || c) && d, () -> x.holds(3, set));
            Check.due("any of four " + set, set != 0, () -> x.holds(4, set));
            Check.due("all of four " + set, set == 15, () -> x.holds(5, set));
        }
    }

    private static void atLeast() {
        String[] quests = new String[6];
        for (int n = 1; n <= 6; n++) {
            quests[n - 1] = Setup.quest(n + " of (0,1,2,3,4,5)", Setup.times(6, "0 1"));
        }
        QuestLedger x = Setup.of(quests);
        for (int n = 1; n <= 6; n++) {
            for (int steps = 0; steps < 64; steps++) {
                int quest = n - 1;
                int set = steps;
                Check.due(n + " of " + set, Integer.bitCount(set) >= n, () -> x.holds(quest, set));
            }
        }
    }

    private static void likeGoals() {
        QuestLedger x = Setup.of(Setup.quest("2 of (0,0)", "0 1", "0 1"), Setup.quest("3 of (0,0,1)", "0 1", "0 1"),
            Setup.quest("3 of (0,0)", "0 1"), Setup.quest("6 of (0,0,0,0,0,0,0,1)", "0 1", "0 1"),
            Setup.quest("6 of (0,0,0,1,1,1,1)", "0 1", "0 1"), Setup.quest("2 of (0 and 1,0 or 1)", "0 1", "0 1"));
        boolean[][] due = {{false, true, false, true}, {false, false, false, true}, {false, false, false, false},
            {false, true, false, true}, {false, false, false, true}, {false, false, false, true}};
        for (int q = 0; q < 6; q++) {
            for (int steps = 0; steps < 4; steps++) {
                int quest = q;
                int set = steps;
                Check.due("quest " + quest + ", steps " + set, due[quest][set], () -> x.holds(quest, set));
            }
        }
    }

    private static void trying() {
        Sentence.test(TERMS, "A step can be tried if its quest is open, it is neither done nor broken,", TermsBounds::canBeTried);
        Sentence.test(TERMS, "all steps that must be done ahead of it are done,", TermsBounds::allAhead);
        Sentence.test(TERMS, "and of each item there is at least what it uses and at least what it needs (the greater one of both, if both are told).",
            TermsBounds::greaterOne);
        Sentence.test(TERMS, "if the queue has numbers, its first one is taken out and is the draw;", TermsBounds::queueFirst);
        Sentence.test(TERMS, "otherwise the seed becomes seed * 1103515245 + 12345 (as an int that wraps), and the draw is the number that the bits "
            + "16 to 30 of the seed tell, modulo 100.", TermsBounds::seedDraws);
        Sentence.test(TERMS, "The step succeeds if the draw is not less than its risk:", TermsBounds::notLess);
        Sentence.test(TERMS, "If it succeeds, what it uses is taken from the stock, what it gives is added (without a limit, as the reward is), "
            + "and it is done.", TermsBounds::noLimit);
        Sentence.test(TERMS, "If the goal of the quest holds then, the quest is done, and its reward is added to the stock.", TermsBounds::goalHolds);
        Sentence.test(TERMS, "If it fails, it has one fail more, and, if it is costly, what it uses is taken from the stock.", TermsBounds::oneFailMore);
        Sentence.test(TERMS, "If the quest cannot hold any more, it is lost (items do not matter): if its goal would not hold, "
            + "if all its steps were done but those that cannot be done any more", TermsBounds::cannotHold);
        Sentence.test(TERMS, "(those that are broken and not done, those that have one of these ahead of them, and so on).", TermsBounds::andSoOn);
    }

    private static void canBeTried() {
        QuestLedger x = Setup.of(Setup.quest("1", "0 1", "0 1"), Setup.quest("1", "100 1", "0 1"), Setup.quest("0", "0 1", "0 1"),
            Setup.quest("0", "100 1", "0 1"), Setup.quest("0", "0 1"));
        x.attempt(0, 0);
        Check.due("done", Check.STATE, () -> x.attempt(0, 0));
        x.attempt(1, 0);
        Check.due("broken", Check.STATE, () -> x.attempt(1, 0));
        x.attempt(2, 0);
        Check.due("the quest is done", Check.STATE, () -> x.attempt(2, 1));
        x.attempt(3, 0);
        Check.due("the quest is lost", Check.STATE, () -> x.attempt(3, 1));
        x.giveUp(4);
        Check.due("the quest is given up", Check.STATE, () -> x.attempt(4, 0));
        int[] due = {2, 2, 0, 0, 0};
        for (int k = 0; k < 5; k++) {
            int quest = k;
            Check.due("what can be tried in " + k, due[k], () -> x.quest(quest, 7));
        }
    }

    private static void allAhead() {
        for (int last = 0; last < 5; last++) {
            QuestLedger x = Setup.of(Setup.quest("5", "0 1", "0 1", "0 1", "0 1", "0 1", "0 1 after 0 1 2 3 4"));
            for (int step = 0; step < 5; step++) {
                if (step != last) {
                    x.attempt(0, step);
                }
            }
            int missing = last;
            Check.due("all but " + last, 4, () -> x.why(0, 5));
            Check.due("it cannot be tried", Check.STATE, () -> x.attempt(0, 5));
            x.attempt(0, missing);
            Check.due("all", 0, () -> x.why(0, 5));
            Check.due("it can be tried", 2, () -> x.attempt(0, 5));
        }
    }

    private static void greaterOne() {
        for (int item = 0; item < 8; item++) {
            enough("uses " + item + " 5 needs " + item + " 3", item, 5);
            enough("uses " + item + " 3 needs " + item + " 5", item, 5);
            enough("needs " + item + " 5 uses " + item + " 5", item, 5);
            enough("uses " + item + " 5", item, 5);
            enough("needs " + item + " 5", item, 5);
            enough("uses " + item + " 1", item, 1);
            enough("needs " + item + " 99 gives " + item + " 99", item, 99);
        }
        QuestLedger x = Setup.of("stock 0 1 1 1 2 1 3 1 4 1 5 1 6 1;", Setup.quest("0", "0 1 uses 0 1 1 1 2 1 3 1 needs 4 1 5 1 6 1 7 1"));
        Check.due("seven items are there, the last one is not", 5, () -> x.why(0, 0));
        x.add(7, 1);
        Check.due("all are there", 0, () -> x.why(0, 0));
    }

    private static void enough(String parts, int item, int amount) {
        QuestLedger x = Setup.of("stock " + item + " " + (amount - 1) + ";", Setup.quest("0", "0 1 " + parts));
        Check.due(parts + ": one is lacking", 5, () -> x.why(0, 0));
        Check.due(parts + ": none can be tried", 0, () -> x.quest(0, 7));
        Check.due(parts + ": no try", Check.STATE, () -> x.attempt(0, 0));
        Check.due(parts + ": no way", false, () -> x.possible(0));
        x.add(item, 1);
        Check.due(parts + ": enough", 0, () -> x.why(0, 0));
        Check.due(parts + ": it can be tried", 1, () -> x.quest(0, 7));
        Check.due(parts + ": a way", true, () -> x.possible(0));
        Check.due(parts + ": a try", 2, () -> x.attempt(0, 0));
    }

    private static void queueFirst() {
        QuestLedger x = Setup.of("seed 5;", Setup.quest("0", "50 9"), Setup.quest("0", "50 9"), Setup.quest("0", "100 9"));
        x.tell(49, 50);
        Check.due("the first number", 0, () -> x.attempt(0, 0));
        Check.due("one is left", 1, () -> x.state(6));
        Check.due("the second number", 2, () -> x.attempt(1, 0));
        Check.due("none is left", 0, () -> x.state(6));
        Check.due("the seed was not needed", 5, () -> x.state(7));
        x.attempt(2, 0);
        Check.due("an empty queue stays empty", 0, () -> x.state(6));
        Check.due("the seed was needed", 5 * 1103515245 + 12345, () -> x.state(7));
        QuestLedger y = Setup.of(Setup.quest(SIX, Setup.times(6, "50 9")));
        for (int n = 0; n < 20; n++) {
            y.tell(n % 2 == 0 ? 0 : 99, n % 3 == 0 ? 99 : 0);
        }
        for (int n = 0; n < 12; n++) {
            boolean high = n % 2 == 0 ? n / 2 % 2 == 1 : n / 2 % 3 == 0;
            int step = Integer.numberOfTrailingZeros(~y.quest(0, 2));
            int left = 39 - n;
            Check.due("number " + n, high ? 1 : 0, () -> y.attempt(0, step));
            Check.due("numbers left", left, () -> y.state(6));
        }
    }

    /** The draw as the sentence tells it, counted without an int that wraps. */
    private static int drawOf(long seed) {
        return (int) (Math.floorMod(Math.floorDiv(seed, 65536L), 32768L) % 100);
    }

    private static long nextSeed(long seed) {
        long next = Math.floorMod(seed * 1103515245L + 12345L, 4294967296L);
        return next >= 2147483648L ? next - 4294967296L : next;
    }

    private static void seedDraws() {
        int wrapped = 0;
        int least = 99;
        int most = 0;
        for (int seed = 0; seed <= 9999; seed += seed < 300 || seed > 9900 ? 1 : 97) {
            int draw = drawOf(nextSeed(seed));
            oneDraw(seed, draw);
            wrapped += nextSeed(seed) < 0 ? 1 : 0;
            least = Math.min(least, draw);
            most = Math.max(most, draw);
        }
        boolean both = wrapped > 100 && least == 0 && most == 99;
        Check.due("seeds below 0, and draws of 0 and of 99, are among them", true, () -> both);
        QuestLedger x = Setup.of("seed 9999;", Setup.quest("1", "100 9", "0 1"));
        long seed = 9999;
        for (int n = 0; n < 160; n++) {
            x.reopen(0);
            x.attempt(0, 0);
            seed = nextSeed(seed);
            int due = (int) seed;
            Check.due("seed " + n, due, () -> x.state(7));
        }
    }

    private static void oneDraw(int seed, int draw) {
        QuestLedger x = Setup.of("seed " + seed + ";", Setup.quest("0", draw + " 1"), Setup.quest("0", draw + 1 + " 1"));
        int next = (int) nextSeed(seed);
        Check.due("seed " + seed + ": the draw is not less than " + draw, 2, () -> x.attempt(0, 0));
        Check.due("seed " + seed + ": the next seed", next, () -> x.state(7));
        x.undo();
        Check.due("seed " + seed + ": the draw is less than " + (draw + 1), 3, () -> x.attempt(1, 0));
    }

    private static void notLess() {
        for (int risk : new int[] {0, 1, 2, 49, 50, 98, 99, 100}) {
            for (int draw : new int[] {0, risk - 1, risk, risk + 1, 99}) {
                if (draw >= 0 && draw <= 99) {
                    QuestLedger x = Setup.of(Setup.quest("0", risk + " 1"));
                    x.tell(draw, draw);
                    Check.due("draw " + draw + ", risk " + risk, draw < risk ? 3 : 2, () -> x.attempt(0, 0));
                }
            }
        }
    }

    private static void noLimit() {
        QuestLedger x = Setup.of("stock 0 999 1 5;", Setup.rewarded(0, 99, "0", "0 1 uses 1 5 gives 0 99 2 99"));
        Check.due("done", 2, () -> x.attempt(0, 0));
        Check.due("above 999", 999 + 99 + 99, () -> x.stock(0));
        Check.due("used", 0, () -> x.stock(1));
        Check.due("given", 99, () -> x.stock(2));
        Check.due("the step is done", 1, () -> x.step(0, 0, 3));
        QuestLedger y = Setup.of("stock 3 9;", Setup.rewarded(3, 9, "1", "0 1 uses 3 9 gives 3 9", "0 1"));
        y.attempt(0, 0);
        Check.due("as much used as given, and no reward yet", 9, () -> y.stock(3));
        // Only calls that are not promised any more come to the limit of add, but gives and reward have none there either.
        QuestLedger z = Setup.of(Setup.rewarded(0, 99, "0", "0 1 gives 0 99"));
        for (int n = 0; n < 1001; n++) {
            z.add(0, 999);
        }
        z.add(0, 1);
        z.attempt(0, 0);
        Check.due("above 1000000", 1000198, () -> z.stock(0));
    }

    private static void goalHolds() {
        QuestLedger x = Setup.of(Setup.rewarded(2, 7, "2 of (0,1,2)", "0 1", "0 1", "0 1"));
        Check.due("one of two", 1, () -> x.attempt(0, 2));
        Check.due("open", 0, () -> x.quest(0, 1));
        Check.due("no reward", 0, () -> x.stock(2));
        Check.due("two of two", 2, () -> x.attempt(0, 0));
        Check.due("done", 1, () -> x.quest(0, 1));
        Check.due("the reward", 7, () -> x.stock(2));
        QuestLedger y = Setup.of(Setup.rewarded(2, 7, "2 of (0)", "0 1"));
        Check.due("all steps are done, but the goal never holds", 1, () -> y.attempt(0, 0));
        Check.due("open", 0, () -> y.quest(0, 1));
    }

    private static void oneFailMore() {
        QuestLedger x = Setup.of("stock 0 4 1 4 2 9;", Setup.quest("2", "100 9 uses 0 2 needs 2 9 gives 3 5 costly", "100 9 uses 1 4", "100 9 costly"));
        for (int fails = 1; fails <= 2; fails++) {
            int due = fails;
            Check.due("fails", 0, () -> x.attempt(0, 0));
            Check.due("one fail more", due, () -> x.step(0, 0, 2));
            Check.due("costly", 4 - 2 * due, () -> x.stock(0));
        }
        Check.due("nothing is left to use", 5, () -> x.why(0, 0));
        Check.due("what it needs is not taken", 9, () -> x.stock(2));
        Check.due("nothing is given", 0, () -> x.stock(3));
        Check.due("fails", 0, () -> x.attempt(0, 1));
        Check.due("not costly", 4, () -> x.stock(1));
        Check.due("fails", 0, () -> x.attempt(0, 2));
        Check.due("costly without uses", "9 4 0", () -> x.stock(2) + " " + x.stock(1) + " " + x.stock(0));
        Check.due("all fails", 4, () -> x.quest(0, 6));
    }

    private static void cannotHold() {
        QuestLedger x = Setup.of(Setup.quest("2 of (0,1,2)", "100 1", "100 1", "100 1 uses 0 99"));
        Check.due("two are left", 0, () -> x.attempt(0, 0));
        Check.due("one is left", 3, () -> x.attempt(0, 1));
        Check.due("lost", 2, () -> x.quest(0, 1));
        QuestLedger y = Setup.of(Setup.quest("0 or 1", "100 1", "0 1 uses 0 99"));
        Check.due("items do not matter", 0, () -> y.attempt(0, 0));
        Check.due("open", 0, () -> y.quest(0, 1));
        Check.due("though not possible", false, () -> y.possible(0));
        QuestLedger z = Setup.of(Setup.quest("0 and 1", "50 1", "100 2"));
        z.tell(50, 0);
        z.attempt(0, 0);
        Check.due("a step that is not broken yet", 0, () -> z.attempt(0, 1));
        Check.due("broken", 3, () -> z.attempt(0, 1));
        QuestLedger v = Setup.of(Setup.quest("1 and 2", "100 1", "0 1", "100 1"));
        v.attempt(0, 1);
        Check.due("the goal is without it", 0, () -> v.attempt(0, 0));
        Check.due("the goal is not without it", 3, () -> v.attempt(0, 2));
        QuestLedger w = Setup.of(Setup.quest("2 of (0)", "0 1", "100 9"));
        Check.due("the goal cannot hold", 3, () -> w.attempt(0, 1));
    }

    private static void andSoOn() {
        String[] chain = {"50 1", "0 1 after 0", "0 1 after 1", "0 1 after 2", "0 1 after 3", "0 1 after 4"};
        QuestLedger x = Setup.of(Setup.quest("5", chain), Setup.quest("0 and 5", chain));
        x.tell(49, 50);
        Check.due("the last of six hangs on the first", 3, () -> x.attempt(0, 0));
        Check.due("only the first is broken", 1, () -> x.quest(0, 3));
        Check.due("it succeeds", 1, () -> x.attempt(1, 0));
        QuestLedger y = Setup.of(Setup.quest("5 or 2", "100 1", "100 1", "100 1 after 0", "0 1 after 1", "0 1 after 0 3", "0 1 after 4"));
        Check.due("both ways hang on the first", 3, () -> y.attempt(0, 0));
        QuestLedger z = Setup.of(Setup.quest("5 or 2", "100 1", "100 1", "100 1", "0 1 after 1", "0 1 after 3", "0 1 after 4 0"));
        Check.due("2 is left", 0, () -> z.attempt(0, 1));
        Check.due("1 alone is broken", 2, () -> z.quest(0, 3));
        Check.due("none is left", 3, () -> z.attempt(0, 2));
        QuestLedger v = Setup.of(Setup.quest("2 or 1", "0 1", "100 1 after 0", "100 2 after 0"));
        v.attempt(0, 0);
        Check.due("what is done stays so", 0, () -> v.attempt(0, 1));
        Check.due("2 can fail twice", 0, () -> v.attempt(0, 2));
        v.mend(0, 2);
        Check.due("and once more", 0, () -> v.attempt(0, 2));
        Check.due("but then it is lost", 3, () -> v.attempt(0, 2));
    }

    private static void ways() {
        Sentence.test(TERMS, "A way of an open quest is a row of steps that can be tried one after the other, each one succeeding "
            + "(whatever its risk),", TermsBounds::whateverRisk);
        Sentence.test(TERMS, "so that the goal holds behind the last one and not earlier.", TermsBounds::notEarlier);
        Sentence.test(TERMS, "(It is gone with the stock that is there now;", TermsBounds::stockNow);
        Sentence.test(TERMS, "no other quest is touched.)", TermsBounds::noOther);
        Sentence.test(TERMS, "Its plan is the way with the fewest steps;", TermsBounds::fewest);
        Sentence.test(TERMS, "of several the first one, if they are compared step by step (the smaller step is ahead).", TermsBounds::firstOne);
        Sentence.test(TERMS, "The risk of a way is the sum of the risks of its steps.", TermsBounds::riskOfWay);
    }

    private static void whateverRisk() {
        QuestLedger x = Setup.of(Setup.quest(SIX, Setup.times(6, "100 1")), Setup.quest("0", "0 1"), Setup.quest("0", "0 1"));
        Check.due("a risk of 100", true, () -> x.possible(0));
        Check.due("six steps", 6, () -> x.planLength(0));
        x.attempt(1, 0);
        x.giveUp(2);
        Check.due("a done quest has no way", false, () -> x.possible(1));
        Check.due("a lost quest has no way", false, () -> x.possible(2));
        x.attempt(0, 0);
        Check.due("one broken step of six", false, () -> x.possible(0));
    }

    private static void notEarlier() {
        QuestLedger x = Setup.of(Setup.quest("0", "10 1", "20 1", "5 1"), Setup.quest("0 or 1 and 2", "10 1", "20 1", "5 1"));
        Check.due("with 0 all ways end", 4, () -> x.endings(0));
        Check.due("without a step more", 10, () -> x.safest(0));
        Check.due("0, 1 0, 2 0, 1 2", 4, () -> x.endings(1));
        Check.due("the shortest", 1, () -> x.planLength(1));
        QuestLedger y = Setup.of(Setup.quest("0", "0 1", "0 1 after 0"));
        Check.due("1 would come behind the end", 1, () -> y.endings(0));
        QuestLedger z = Setup.of(Setup.quest("0 or 0 and 1", "0 1", "0 1"));
        Check.due("0 and 1, if 1 is first", 2, () -> z.endings(0));
    }

    private static void stockNow() {
        QuestLedger x = Setup.of("stock 0 2;", Setup.quest("0 and 1", "0 1 uses 0 1", "0 1 uses 0 2"));
        Check.due("one is lacking for both", false, () -> x.possible(0));
        x.add(0, 1);
        Check.due("just enough", true, () -> x.possible(0));
        x.spend(0, 1);
        Check.due("not any more", false, () -> x.possible(0));
        QuestLedger y = Setup.of("stock 0 1;", Setup.quest("0 and 1 and 2", "0 1 uses 1 2", "0 1 uses 0 1 gives 1 1", "0 1 uses 1 1 gives 1 2"));
        Check.due("each takes what the one before gives", "3 1 2 0",
            () -> y.planLength(0) + " " + y.planStep(0, 0) + " " + y.planStep(0, 1) + " " + y.planStep(0, 2));
        y.spend(0, 1);
        Check.due("without the first item", -1, () -> y.planLength(0));
    }

    private static void noOther() {
        QuestLedger x = Setup.of(Setup.rewarded(0, 5, "0", "0 1 gives 1 5"), Setup.quest("0", "0 1 uses 0 5"), Setup.quest("0", "0 1 uses 1 5"));
        Check.due("the reward of another quest does not count", false, () -> x.possible(1));
        Check.due("what another quest gives does not count", false, () -> x.possible(2));
        QuestLedger y = Setup.of(Setup.rewarded(0, 5, "1", "0 1", "0 1 uses 0 1"));
        Check.due("nor does its own reward", false, () -> y.possible(0));
        Check.due("asking leaves the quests as they are", "0 0", () -> x.state(4) + " " + x.stock(0));
    }

    private static String planOf(QuestLedger x, int quest) {
        StringBuilder plan = new StringBuilder();
        for (int k = 0; k < x.planLength(quest); k++) {
            plan.append(x.planStep(quest, k));
        }
        return plan.toString();
    }

    private static void fewest() {
        QuestLedger x = Setup.of(Setup.quest("0 and 1 or 2", "0 1", "0 1", "100 1"), Setup.quest("0 and 1 and 2 or 3 and 4", Setup.times(5, "0 1")),
            Setup.quest(SIX, Setup.times(6, "0 1")), Setup.quest("0", "0 1"));
        String[] due = {"2", "34", "012345", "0"};
        for (int k = 0; k < 4; k++) {
            int quest = k;
            Check.due("plan " + k, due[k], () -> planOf(x, quest));
        }
    }

    private static void firstOne() {
        QuestLedger x = Setup.of("stock 0 1;", Setup.quest("0 or 1", "100 1", "0 1"), Setup.quest("1 and 4 or 2 and 3", Setup.times(5, "0 1")),
            Setup.quest("2 of (0,1,2)", "0 1", "0 1", "0 1"),
            Setup.quest("0 and 1", "0 1 uses 0 1", "0 1 needs 0 1"), Setup.quest("2 and (0 or 1)", "0 1 uses 1 1", "0 1 gives 1 1", "0 1"),
            Setup.quest("5 and (3 or 4)", "0 1", "0 1", "0 1", "0 1", "0 1", "0 1"));
        String[] due = {"0", "14", "01", "10", "12", "35"};
        for (int k = 0; k < 6; k++) {
            int quest = k;
            Check.due("plan " + k, due[k], () -> planOf(x, quest));
        }
        // What is done behind 0 and 1, or 1 and 2, can be done in another order only, for one takes what the other needs.
        QuestLedger y = Setup.of("stock 0 1;", Setup.quest("0 and 1 and 4 or 0 and 2 and 3", "0 1 uses 0 1", "0 1 needs 0 1", "0 1", "0 1", "0 1"),
            Setup.quest("0 and 1 and 2", "0 1 needs 0 1 uses 1 1", "0 1 uses 0 1", "0 1 gives 1 1"),
            Setup.quest("2 and 1 and 3", "0 1", "0 1 uses 0 1", "0 1", "0 1 needs 0 1 after 2"));
        String[] others = {"023", "201", "231"};
        for (int k = 0; k < 3; k++) {
            int quest = k;
            Check.due("plan with one order " + k, others[k], () -> planOf(y, quest));
        }
    }

    private static void riskOfWay() {
        QuestLedger x = Setup.of(Setup.quest("0", "0 1"), Setup.quest(SIX, Setup.times(6, "100 1")), Setup.quest("0 or 1 and 2", "100 1", "49 1", "50 1"),
            Setup.quest("0 or 1 and 2", "99 1", "50 1", "50 1"), "worth risk;");
        int[] safest = {0, 600, 99, 99};
        int[] ofPlan = {0, 600, 100, 99};
        for (int k = 0; k < 4; k++) {
            int quest = k;
            Check.due("safest " + k, safest[k], () -> x.safest(quest));
            Check.due("risk of the plan " + k, ofPlan[k], () -> x.worth(quest));
        }
    }

    private static void worth() {
        Sentence.test(TERMS, "length is the number of steps of its plan (-1 if it is not possible)", TermsBounds::lengthOfNone);
        Sentence.test(TERMS, "risk the risk of its plan (0 if it is not possible)", TermsBounds::riskOfNone);
        Sentence.test(TERMS, "done the number of its steps that are done, fails the sum of the fails of its steps, reward the amount of its "
            + "reward, and quest its index.", TermsBounds::otherFactors);
        Sentence.test(TERMS, "Division truncates toward zero;", TermsBounds::truncates);
        Sentence.test(TERMS, "by 0 it gives 0;", TermsBounds::byZero);
        Sentence.test(TERMS, "the operations of one sum or term are made from the left to the right,", TermsBounds::leftToRight);
        Sentence.test(TERMS, "and the result of each one is limited to the range -1000000 to 1000000: it becomes the nearer bound if it is outside of it.",
            TermsBounds::limited);
        Sentence.test(TERMS, "Without a worth statement the worth is the amount of the reward.", TermsBounds::withoutWorth);
    }

    private static void worthIs(int due, String sum) {
        QuestLedger x = Setup.of("worth " + sum + ";", Setup.quest("0", "0 1"));
        Check.due(sum, due, () -> x.worth(0));
    }

    private static void lengthOfNone() {
        QuestLedger x = Setup.of("worth length;", Setup.quest("0", "0 1"), Setup.quest("0", "0 1 uses 0 1"), Setup.quest("0", "0 1"),
            Setup.quest("0", "0 1"), Setup.quest(SIX, Setup.times(6, "0 1")));
        x.attempt(2, 0);
        x.giveUp(3);
        int[] due = {1, -1, -1, -1, 6};
        for (int k = 0; k < 5; k++) {
            int quest = k;
            Check.due("length " + k, due[k], () -> x.worth(quest));
        }
    }

    private static void riskOfNone() {
        QuestLedger x = Setup.of("worth risk;", Setup.quest("0", "7 1"), Setup.quest("0", "7 1 uses 0 1"), Setup.quest("0", "7 1"),
            Setup.quest("0", "7 1"), Setup.quest("1", "7 1", "7 1"));
        x.tell(7, 7);
        x.attempt(2, 0);
        x.attempt(4, 0);
        x.giveUp(3);
        int[] due = {7, 0, 0, 0, 7};
        for (int k = 0; k < 5; k++) {
            int quest = k;
            Check.due("risk " + k, due[k], () -> x.worth(quest));
        }
    }

    private static void otherFactors() {
        QuestLedger x = Setup.of("worth done*1000+fails*100+reward;", Setup.rewarded(0, 99, SIX, Setup.times(6, "50 9")), Setup.quest("0", "100 9"));
        Check.due("none done, no fails", 99, () -> x.worth(0));
        x.tell(0, 50);
        x.attempt(0, 1);
        x.attempt(0, 0);
        Check.due("one done, one fail of another", 1199, () -> x.worth(0));
        for (int n = 0; n < 9; n++) {
            x.attempt(1, 0);
        }
        Check.due("nine fails of a lost quest, no reward", 900, () -> x.worth(1));
        QuestLedger y = Setup.of("worth quest;", Setup.quest("0", "0 1").repeat(6));
        for (int k = 0; k < 6; k++) {
            int quest = k;
            Check.due("quest", quest, () -> y.worth(quest));
        }
        QuestLedger z = Setup.of("worth done;", Setup.quest(SIX, Setup.times(6, "0 1")));
        z.play(0);
        Check.due("six done", 6, () -> z.worth(0));
    }

    private static void truncates() {
        worthIs(3, "7/2");
        worthIs(-3, "(0-7)/2");
        worthIs(-3, "7/(0-2)");
        worthIs(3, "(0-7)/(0-2)");
        worthIs(0, "1/2");
        worthIs(0, "(0-1)/2");
        worthIs(-1, "(0-2)/2");
        worthIs(0, "9998/9999");
        worthIs(1, "9999/9999");
        worthIs(0, "0/9");
    }

    private static void byZero() {
        worthIs(0, "5/0");
        worthIs(0, "0/0");
        worthIs(0, "(0-5)/0");
        worthIs(0, "9999*9999/0");
        worthIs(7, "5/0+7");
        worthIs(0, "9/quest");
        worthIs(0, "9/(1-1)");
        worthIs(0, "6/0*3");
    }

    private static void leftToRight() {
        worthIs(-4, "1-2-3");
        worthIs(0, "1-2+1");
        worthIs(-8, "1-2*3-3");
        worthIs(2, "8/2/2");
        worthIs(8, "8/2*2");
        worthIs(6, "7/2*2");
        worthIs(7, "7*2/2");
        worthIs(1, "1-(2-3)-(4-3)");
    }

    private static void limited() {
        worthIs(1000000, "1000*1000");
        worthIs(1000000, "1000*1000+1");
        worthIs(999999, "1000*1000-1");
        worthIs(999999, "1000*1000+1-1");
        worthIs(999999, "9999*100+99");
        worthIs(1000000, "9999*100+100");
        worthIs(1000000, "9999*100+101");
        worthIs(-1000000, "0-1000*1000");
        worthIs(-1000000, "0-1000*1000-1");
        worthIs(-999999, "0-1000*1000+1");
        worthIs(-999999, "0-1000*1000-1+1");
        worthIs(1000000, "9999*9999");
        worthIs(-1000000, "(0-9999)*9999");
        worthIs(1000000, "(1000*1000)*(1000*1000)");
        worthIs(-1000000, "(1000*1000)*(0-1000*1000)");
        worthIs(1000000, "1001*1000");
        worthIs(-1000000, "(0-1001)*1000");
        worthIs(500000, "9999*9999/2");
        worthIs(0, "9999*9999-9999*999");
    }

    private static void withoutWorth() {
        QuestLedger x = Setup.of(Setup.rewarded(1, 0, "0", "0 1"), Setup.rewarded(2, 99, "0", "0 1"), Setup.rewarded(0, 7, "0", "0 1 uses 0 9"));
        Check.due("a reward of 0", 0, () -> x.worth(0));
        Check.due("a reward of 99", 99, () -> x.worth(1));
        Check.due("a quest that is not possible", 7, () -> x.worth(2));
        QuestLedger y = Setup.of("worth 3;", Setup.rewarded(1, 5, "0", "0 1"));
        Check.due("with a worth statement", 3, () -> y.worth(0));
        Check.load(y, "ledger;" + Setup.rewarded(1, 5, "0", "0 1"));
        Check.due("the next text is without one", 5, () -> y.worth(0));
        y.undo();
        Check.due("undone", 3, () -> y.worth(0));
    }
}
