/** The sentences of promises 12 to 21 that name a boundary. */
final class WaysBounds {
    private static final String SIX = "6 of (0,1,2,3,4,5)";
    private static final String NO_QUEST = "Throws `IndexOutOfBoundsException` if there is no such quest";

    private WaysBounds() {
    }

    static void all() {
        possible();
        planLength();
        planStep();
        safest();
        endings();
        lacking();
        campaign();
        worth();
        best();
        chance();
    }

    /** Quest 0 is possible; 1 lacks an item, 2 is done, 3 is lost, the goal of 4 never holds, the one step of 5 is broken. */
    private static QuestLedger oneOfSix() {
        QuestLedger x = Setup.of("stock 0 1;worth length*1000+risk;", Setup.quest("0 and 1", "30 1", "40 1 uses 0 1"), Setup.quest("0", "30 1 uses 0 2"),
            Setup.quest("0", "30 1"), Setup.quest("0", "30 1"), Setup.quest("2 of (0)", "30 1"), Setup.quest("0 or 1", "100 1", "30 1 uses 0 2"));
        x.tell(30, 0);
        x.attempt(2, 0);
        x.attempt(5, 0);
        x.giveUp(3);
        return x;
    }

    private static void possible() {
        Sentence.test("Promise 12", "Returns whether it is possible.", () -> {
            QuestLedger x = oneOfSix();
            for (int k = 0; k < 6; k++) {
                int quest = k;
                Check.due("quest " + k, quest == 0, () -> x.possible(quest));
            }
            x.spend(0, 1);
            Check.due("without the last item", false, () -> x.possible(0));
            x.add(0, 2);
            Check.due("with just as many as are needed", true, () -> x.possible(1));
            Check.due("the way round a broken step", true, () -> x.possible(5));
        });
        Sentence.test("Promise 12", NO_QUEST, () -> AskBounds.noSuchQuest((x, quest) -> x.possible(quest)));
    }

    private static void planLength() {
        Sentence.test("Promise 13", "Returns the number of steps of its plan;", () -> {
            for (int steps = 1; steps <= 6; steps++) {
                int due = steps;
                QuestLedger x = Setup.of(Setup.quest(steps + " of (0,1,2,3,4,5)", Setup.times(6, "100 1")));
                Check.due("steps", due, () -> x.planLength(0));
            }
            QuestLedger y = Setup.of(Setup.quest(SIX, Setup.times(6, "0 1")));
            for (int left = 6; left >= 1; left--) {
                int due = left;
                Check.due("steps that are left", due, () -> y.planLength(0));
                y.attempt(0, left - 1);
            }
            Check.due("none is left of a done quest", -1, () -> y.planLength(0));
        });
        Sentence.test("Promise 13", "-1 if it is not possible.", () -> {
            QuestLedger x = oneOfSix();
            for (int k = 0; k < 6; k++) {
                int quest = k;
                Check.due("quest " + k, quest == 0 ? 2 : -1, () -> x.planLength(quest));
            }
        });
        Sentence.test("Promise 13", NO_QUEST, () -> AskBounds.noSuchQuest((x, quest) -> x.planLength(quest)));
    }

    private static void planStep() {
        Sentence.test("Promise 14", "`k`: a number from 0", () -> {
            QuestLedger x = Setup.of(Setup.quest("3 and 5", Setup.times(6, "0 1")));
            Check.due("the first one is that of 0", 3, () -> x.planStep(0, 0));
            Check.due("the next one", 5, () -> x.planStep(0, 1));
            Check.due("none ahead of it", Check.ELEMENT, () -> x.planStep(0, -1));
        });
        Sentence.test("Promise 14", "Returns the k-th step of its plan.", () -> {
            QuestLedger x = Setup.of(Setup.quest(SIX, "0 1 uses 1 1", "0 1", "0 1", "0 1", "0 1", "0 1 gives 1 1"));
            int[] due = {1, 2, 3, 4, 5, 0};
            for (int k = 0; k < 6; k++) {
                int asked = k;
                Check.due("step " + k, due[k], () -> x.planStep(0, asked));
            }
            x.attempt(0, 5);
            Check.due("as the plan is then", 0, () -> x.planStep(0, 0));
            Check.due("the last one", 4, () -> x.planStep(0, 4));
            Check.due("one less", Check.ELEMENT, () -> x.planStep(0, 5));
        });
        Sentence.test("Promise 14", NO_QUEST, () -> {
            AskBounds.noSuchQuest((x, quest) -> x.planStep(quest, 0));
            AskBounds.noSuchQuest((x, quest) -> x.planStep(quest, 99));
        });
        Sentence.test("Promise 14", "Throws `NoSuchElementException` if it is not possible, or its plan has no such step", () -> {
            QuestLedger x = oneOfSix();
            Setup.range("k", 0, 1, Check.ELEMENT, k -> x.planStep(0, k));
            for (int k = 1; k < 6; k++) {
                int quest = k;
                Check.due("quest " + k, Check.ELEMENT, () -> x.planStep(quest, 0));
                Setup.beside("k of " + k, 0, -1, Check.ELEMENT, step -> x.planStep(quest, step));
            }
            QuestLedger y = Setup.of(Setup.quest(SIX, Setup.times(6, "0 1")));
            Setup.range("k of six", 0, 5, Check.ELEMENT, k -> y.planStep(0, k));
        });
    }

    private static void safest() {
        Sentence.test("Promise 15", "Returns the smallest risk of a way of it;", () -> {
            QuestLedger x = Setup.of(Setup.quest("0 or 1 or 2", "0 1", "50 1", "7 1"), Setup.quest("0 or 1 or 2", "1 1", "50 1", "7 1"),
                Setup.quest("0 or 1 or 2", "50 1", "8 1", "7 1"), Setup.quest("0 or 1 and 2 and 3", "100 1", "33 1", "33 1", "33 1"),
                Setup.quest(SIX, Setup.times(6, "100 1")), Setup.quest("0", "0 1 uses 0 1", "9 1 gives 0 1"));
            int[] due = {0, 1, 7, 99, 600, 9};
            for (int k = 0; k < 6; k++) {
                int quest = k;
                Check.due("quest " + k, due[k], () -> x.safest(quest));
            }
            x.tell(99, 99);
            x.attempt(3, 1);
            Check.due("what is done is no risk any more", 66, () -> x.safest(3));
        });
        Sentence.test("Promise 15", "-1 if it is not possible.", () -> {
            QuestLedger x = oneOfSix();
            for (int k = 0; k < 6; k++) {
                int quest = k;
                Check.due("quest " + k, quest == 0 ? 70 : -1, () -> x.safest(quest));
            }
        });
        Sentence.test("Promise 15", NO_QUEST, () -> AskBounds.noSuchQuest((x, quest) -> x.safest(quest)));
    }

    private static void endings() {
        Sentence.test("Promise 16", "Returns how many sets of steps there are that are done behind some way of it", () -> {
            int[] due = {6, 15, 20, 15, 6, 1};
            for (int n = 1; n <= 6; n++) {
                int count = due[n - 1];
                QuestLedger x = Setup.of(Setup.quest(n + " of (0,1,2,3,4,5)", Setup.times(6, "0 1")));
                Check.due(n + " of six", count, () -> x.endings(0));
            }
            QuestLedger y = Setup.of(Setup.quest("5", Setup.times(6, "0 1")), Setup.quest("0", "0 1"), Setup.quest("5 or 0 and 0", Setup.times(6, "0 1")));
            Check.due("5 last, the others or not", 32, () -> y.endings(0));
            Check.due("the one step", 1, () -> y.endings(1));
            Check.due("5 or 0, the others or not", 32, () -> y.endings(2));
            QuestLedger x = oneOfSix();
            for (int k = 0; k < 6; k++) {
                int quest = k;
                Check.due("quest " + k, quest == 0 ? 1 : 0, () -> x.endings(quest));
            }
        });
        Sentence.test("Promise 16", "(with those that are done now).", () -> {
            QuestLedger x = Setup.of(Setup.quest("2 of (0,1,2)", Setup.times(3, "0 1")));
            Check.due("three pairs", 3, () -> x.endings(0));
            x.attempt(0, 1);
            Check.due("the pairs with 1", 2, () -> x.endings(0));
            x.attempt(0, 0);
            Check.due("none of a done quest", 0, () -> x.endings(0));
        });
        Sentence.test("Promise 16", NO_QUEST, () -> AskBounds.noSuchQuest((x, quest) -> x.endings(quest)));
    }

    private static void lacking() {
        Sentence.test("Promise 17", "Returns the least amount (0 to 99) of the item that would have to be added to its stock for the quest to be possible;",
            WaysBounds::leastAmount);
        Sentence.test("Promise 17", "-1 if 99 are not enough.", WaysBounds::notEnough);
        Sentence.test("Promise 17", "Throws `IndexOutOfBoundsException` if there is no such quest or item", () -> {
            AskBounds.noSuchQuest((x, quest) -> x.lacking(quest, 0));
            AskBounds.noSuchQuest((x, quest) -> x.lacking(quest, 7));
            AskBounds.noSuchItem(item -> Setup.of(Setup.quest("0", "0 1")).lacking(0, item));
        });
    }

    private static void leastAmount() {
        for (int amount = 1; amount <= 99; amount++) {
            int due = amount;
            int item = amount % 8;
            QuestLedger x = Setup.of(Setup.quest("0", "0 1 needs " + item + " " + amount), Setup.quest("0", "0 1 uses " + item + " " + amount));
            Check.due("needs", due, () -> x.lacking(0, item));
            Check.due("uses", due, () -> x.lacking(1, item));
            x.add(item, 1);
            Check.due("one is there", due - 1, () -> x.lacking(0, item));
        }
        QuestLedger y = Setup.of("stock 3 5;", Setup.quest("0", "0 1 uses 3 5"), Setup.quest("0 or 1", "0 1 uses 3 50", "0 1 uses 3 20"),
            Setup.quest("0 and 1", "0 1 uses 3 50", "0 1 uses 3 20"), Setup.quest("0 and 1", "0 1 needs 3 50", "0 1 needs 3 20"),
            Setup.quest("0 and 1", "0 1 uses 3 50", "0 1 uses 3 20 gives 3 10"));
        int[] due = {0, 15, 65, 45, 55};
        for (int k = 0; k < 5; k++) {
            int quest = k;
            Check.due("quest " + k, due[k], () -> y.lacking(quest, 3));
        }
        Check.due("another item of a possible quest", 0, () -> y.lacking(0, 7));
        Check.due("the stock stays", 5, () -> y.stock(3));
    }

    private static void notEnough() {
        QuestLedger x = Setup.of(Setup.quest("0 and 1", "0 1 uses 0 99", "0 1 uses 0 1"), Setup.quest("0", "0 1 needs 0 1 1 1"), Setup.quest("2 of (0)", "0 1"),
            Setup.quest("0", "0 1"), Setup.quest("0", "0 1"), Setup.quest("0", "0 1 needs 0 99"));
        x.attempt(3, 0);
        x.giveUp(4);
        int[] due = {-1, -1, -1, -1, -1, 99};
        for (int k = 0; k < 6; k++) {
            int quest = k;
            Check.due("quest " + k, due[k], () -> x.lacking(quest, 0));
        }
        x.add(0, 1);
        Check.due("99 of 100", 99, () -> x.lacking(0, 0));
        Check.due("another item is lacking", -1, () -> x.lacking(1, 0));
        Check.due("that one", 1, () -> x.lacking(1, 1));
        x.add(0, 99);
        Check.due("none of 100", 0, () -> x.lacking(0, 0));
    }

    private static void campaign() {
        Sentence.test("Promise 18", "again and again the possible quest with the smallest index is finished by its plan (each step succeeds at once), "
            + "until no quest is possible.", () -> {
                QuestLedger x = Setup.of("stock 0 1;", Setup.rewarded(1, 1, "0", "100 1 uses 0 1"), Setup.quest("0", "0 1 uses 0 1"),
                    Setup.quest("0", "0 1 uses 2 1"), Setup.rewarded(2, 1, "0", "100 9 uses 1 1"));
                Check.due("0 takes what 1 needs; it helps 3, that helps 2", 3, x::campaign);
                Check.due("nothing is changed", "0 1 0", () -> x.state(4) + " " + x.stock(0) + " " + x.state(7));
                x.tell(0, 0);
                Check.due("no draw is made", "3 2", () -> x.campaign() + " " + x.state(6));
                QuestLedger y = Setup.of("stock 0 2;", Setup.quest("0 and 1 or 2", "0 1", "0 1", "0 1 uses 0 2"), Setup.quest("0", "0 1 uses 0 1"));
                Check.due("by its plan, which takes all", 1, y::campaign);
                Check.due("oneOfSix", 1, oneOfSix()::campaign);
                QuestLedger z = Setup.of(Setup.quest("0 and 1", "0 1 uses 1 1", "0 1 gives 1 1"), Setup.quest("0", "0 1 uses 1 1"));
                Check.due("the gift is used up", 1, z::campaign);
            });
        Sentence.test("Promise 18", "Returns how many quests are finished in it.", () -> {
            for (int count = 0; count <= 6; count++) {
                int due = count;
                QuestLedger x = Setup.of(Setup.quest("0", "0 1").repeat(count), Setup.quest("0", "0 1 uses 7 1").repeat(6 - count));
                Check.due("possible quests", due, x::campaign);
            }
            Check.due("a new object", 0, new QuestLedger()::campaign);
            QuestLedger chain = Setup.of(Setup.quest("0", "0 1 uses 5 1"), Setup.rewarded(5, 1, "0", "0 1 uses 4 1"), Setup.rewarded(4, 1, "0", "0 1 uses 3 1"),
                Setup.rewarded(3, 1, "0", "0 1 uses 2 1"), Setup.rewarded(2, 1, "0", "0 1 uses 1 1"), Setup.rewarded(1, 1, "0", "0 1"));
            Check.due("each one helps the one ahead of it", 6, chain::campaign);
            chain.giveUp(5);
            Check.due("none helps", 0, chain::campaign);
        });
    }

    private static void worth() {
        Sentence.test("Promise 19", NO_QUEST, () -> AskBounds.noSuchQuest((x, quest) -> x.worth(quest)));
        Sentence.test("Promise 19", "Returns its worth.", () -> {
            QuestLedger x = oneOfSix();
            for (int k = 0; k < 6; k++) {
                int quest = k;
                Check.due("quest " + k, quest == 0 ? 2070 : -1000, () -> x.worth(quest));
            }
        });
    }

    private static void best() {
        Sentence.test("Promise 20", "Returns the possible quest with the greatest worth, of several the one with the smallest index;", () -> {
            Check.due("the first of like ones", 0, Setup.of(Setup.rewarded(0, 5, "0", "0 1").repeat(6))::best);
            Check.due("the last one is greater", 5, Setup.of(Setup.rewarded(0, 5, "0", "0 1").repeat(5), Setup.rewarded(0, 6, "0", "0 1"))::best);
            Check.due("the last one is less", 0, Setup.of(Setup.rewarded(0, 5, "0", "0 1").repeat(5), Setup.rewarded(0, 4, "0", "0 1"))::best);
            Check.due("all are 0", 0, Setup.of(Setup.quest("0", "0 1").repeat(3))::best);
            Check.due("all are below 0", 1, Setup.of("worth 2*quest-quest*quest-5;", Setup.quest("0", "0 1").repeat(4))::best);
            Check.due("the least that there is", 0, Setup.of("worth 0-9999*9999;", Setup.quest("0", "0 1").repeat(2))::best);
            Check.due("the greatest is not possible", 1,
                Setup.of(Setup.rewarded(0, 99, "0", "0 1 uses 0 1"), Setup.rewarded(0, 1, "0", "0 1"), Setup.rewarded(0, 1, "0", "0 1"))::best);
            Check.due("the only possible one", 0, oneOfSix()::best);
        });
        Sentence.test("Promise 20", "-1 if none is possible.", () -> {
            Check.due("a new object", -1, new QuestLedger()::best);
            Check.due("no quests", -1, Setup.of("worth 5;")::best);
            QuestLedger x = oneOfSix();
            x.giveUp(0);
            Check.due("six quests, none possible", -1, x::best);
            QuestLedger y = Setup.of("worth 0-5;", Setup.quest("0", "0 1"));
            Check.due("a worth below 0", 0, y::best);
            y.attempt(0, 0);
            Check.due("the only one is done", -1, y::best);
        });
    }

    private static void chance() {
        Sentence.test("Promise 21", "Returns the product, over the steps of its plan from the first one on (beginning with 1.0), of 100 minus the risk, "
            + "converted to double, divided by 100.0;", () -> {
                for (int risk = 0; risk <= 100; risk++) {
                    QuestLedger x = Setup.of(Setup.quest("0", risk + " 1"));
                    double due = 1.0 * ((double) (100 - risk) / 100.0);
                    Check.due("risk " + risk, due, () -> x.chance(0));
                }
                // Uses make 5 the first step of the plan; with another order, or divided only at the end, the last bits differ.
                QuestLedger y = Setup.of(Setup.quest(SIX, "7 1 uses 0 1", "13 1", "31 1", "57 1", "83 1", "91 1 gives 0 1"));
                double due = 1.0 * (87 / 100.0) * (69 / 100.0) * (43 / 100.0) * (17 / 100.0) * (9 / 100.0) * (93 / 100.0);
                Check.due("six steps", due, () -> y.chance(0));
                QuestLedger z = Setup.of(Setup.quest("0 and 1 or 2", "1 1", "1 1", "99 1"));
                Check.due("of the plan", 1.0 / 100.0, () -> z.chance(0));
            });
        Sentence.test("Promise 21", "0.0 if it is not possible.", () -> {
            QuestLedger x = oneOfSix();
            for (int k = 0; k < 6; k++) {
                int quest = k;
                Check.due("quest " + k, quest == 0 ? 1.0 * (70 / 100.0) * (60 / 100.0) : 0.0, () -> x.chance(quest));
            }
        });
        Sentence.test("Promise 21", NO_QUEST, () -> AskBounds.noSuchQuest((x, quest) -> x.chance(quest)));
    }
}
