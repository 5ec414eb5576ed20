/** The sentences of "Setup text" and of promises 1 to 4 that name a boundary. */
final class TextBounds {
    private static final String TERMS = "Terms";
    private static final int SYNTAX = QuestLedger.SYNTAX_ERROR;
    private static final int RANGE = QuestLedger.OUT_OF_RANGE;
    private static final int TWICE = QuestLedger.REPEATED;
    private static final int MANY = QuestLedger.TOO_MANY;
    private static final int DEEP = QuestLedger.TOO_DEEP;
    private static final String ONE = Setup.quest("0", "0 1");
    private static final String[] AMOUNTS = {"uses", "needs", "gives"};
    /** A text with an error of each kind, and where it is. */
    private static final String[] WRONG = {"ledger;seed x;", "ledger;seed 10000;", "ledger;stock 0 1 0 2;", "ledger;" + ONE.repeat(7),
        "ledger;worth (((((1)))));"};
    private static final int[] ERRORS = {SYNTAX, RANGE, TWICE, MANY, DEEP};
    private static final int[] OFFSETS = {12, 12, 17, 7 + 6 * ONE.length(), 17};

    private TextBounds() {
    }

    static void all() {
        tokens();
        numbers();
        counts();
        errors();
        errorsOfKinds();
        constants();
        appending();
        loading();
        offsets();
    }

    private static void tokens() {
        Sentence.test(TERMS, "The setup text is read from an input buffer of at most 800 bytes.", TextBounds::full);
        Sentence.test(TERMS, "A number is a run of decimal digits, of any length", TextBounds::anyLength);
        Sentence.test(TERMS, "(leading zeros do not matter);", TextBounds::leadingZeros);
        Sentence.test(TERMS, "a word is a run of the letters a to z.", TextBounds::letters);
        Sentence.test(TERMS, "Each run is as long as possible.", TextBounds::longRuns);
        Sentence.test(TERMS, "Spaces (byte 32) may precede any token and may follow the last one;", TextBounds::spaces);
        Sentence.test(TERMS, "a word and a number side by side need none between them.", TextBounds::sideBySide);
        Sentence.test(TERMS, "No other byte separates tokens.", TextBounds::otherBytes);
    }

    private static String filled(String text, int length, String last) {
        return text + " ".repeat(length - text.length() - last.length()) + last;
    }

    private static void full() {
        Setup.good(filled("ledger;stock 0 5", 800, ";"), 0);
        Setup.good(filled(" ".repeat(700) + "ledger;", 800, "seed 1;"), 0);
        Setup.bad(SYNTAX, filled("ledger;stock 0 5", 799, ";"), ";");
        Setup.bad(SYNTAX, filled("ledger;seed ", 800, "5"), "");
        Setup.bad(SYNTAX, " ".repeat(800), "");
        Setup.bad(SYNTAX, filled("ledger;", 799, ""), "x");
        QuestLedger x = new QuestLedger();
        String sum = "ledger;" + ONE + "worth 1";
        String ones = sum + "+1".repeat((799 - sum.length()) / 2);
        int due = 1 + (799 - sum.length()) / 2;
        Check.due("a text of 800 bytes that is all one sum", 1, () -> Check.load(x, filled(ones, 800, ";")));
        Check.due("its worth", due, () -> x.worth(0));
        QuestLedger y = new QuestLedger();
        String goal = "ledger;quest 0 0;step 0 1;step 0 1;goal 6 of (1";
        String zeros = goal + ",0".repeat((797 - goal.length()) / 2);
        Check.due("a text of 800 bytes that is all one goal", 1, () -> Check.load(y, filled(zeros, 800, ");")));
        Check.due("it holds with 0", "true false", () -> y.holds(0, 1) + " " + y.holds(0, 2));
        QuestLedger z = new QuestLedger();
        String or = "ledger;quest 0 0;step 0 1;step 0 1;goal 0and 0";
        String ors = or + "or 0and 1".repeat((799 - or.length()) / 9);
        Check.due("a text of 800 bytes that is all 'and' and 'or'", 1, () -> Check.load(z, filled(ors, 800, ";")));
        Check.due("it holds with 0", "true false", () -> z.holds(0, 1) + " " + z.holds(0, 2));
        Setup.bad(SYNTAX, "", ";".repeat(800));
        Setup.bad(SYNTAX, "ledger;", "(".repeat(793));
        Setup.bad(DEEP, "ledger;worth((((", "(".repeat(784));
        Setup.bad(SYNTAX, "ledger;seed1;", "!".repeat(787));
        QuestLedger w = new QuestLedger();
        for (int n = 0; n < 40; n++) {
            w.append(0x20202020, 0x20202020, 0x20202020, 0x20202020, 0x20202020);
        }
        Check.due("not 801", Check.ARGUMENT, () -> w.load(801));
        Check.due("800", SYNTAX, () -> w.load(800));
        Check.due("the end", 800, w::errorOffset);
    }

    private static void anyLength() {
        String[] tooLarge = {"10000", "32768", "65536", "99999", "1000000", "1000005", "10000005", "2147483647", "2147483648",
            "2147483653", "4294967295", "4294967296", "4294967301",
            "9223372036854775807", "9223372036854775808", "18446744073709551615", "18446744073709551616", "18446744073709551621",
            "340282366920938463463374607431768211461", "1" + "0".repeat(100), "5" + "0".repeat(600), "9".repeat(700)};
        for (String number : tooLarge) {
            Setup.bad(RANGE, "ledger;seed ", number + ";");
            Setup.bad(RANGE, "ledger;stock ", number + " 1;");
            Setup.bad(RANGE, "ledger;stock 0 ", number + ";");
            Setup.bad(RANGE, "ledger;worth ", number + ";");
            Setup.bad(RANGE, "ledger;quest ", number + " 1;");
            Setup.bad(RANGE, "ledger;quest 0 ", number + ";");
            Setup.bad(RANGE, "ledger;quest 0 0;step ", number + " 1;");
            Setup.bad(RANGE, "ledger;quest 0 0;step 0 ", number + ";");
            Setup.bad(RANGE, "ledger;quest 0 0;step 0 1 uses ", number + " 1;");
            Setup.bad(RANGE, "ledger;quest 0 0;step 0 1 gives 0 ", number + ";");
            Setup.bad(RANGE, "ledger;quest 0 0;step 0 1;step 0 1 after ", number + ";");
            Setup.bad(RANGE, "ledger;quest 0 0;step 0 1;goal ", number + ";");
            Setup.bad(RANGE, "ledger;quest 0 0;step 0 1;goal ", number + " of (0);");
        }
    }

    private static void leadingZeros() {
        for (int zeros : new int[] {1, 2, 9, 10, 11, 19, 20, 40}) {
            String o = "0".repeat(zeros);
            QuestLedger x = Setup.of("stock " + o + "3 " + o + "999;seed " + o + "9999;worth " + o + "12;quest " + o + "7 " + o + "99;step "
                + o + "100 " + o + "9 uses " + o + "1 " + o + "2;step 0 1 after " + o + ";goal " + o + "2 of (" + o + "," + o + "1);");
            Check.due("stock", 999, () -> x.stock(3));
            Check.due("seed", 9999, () -> x.state(7));
            Check.due("worth", 12, () -> x.worth(0));
            Check.due("reward", "7 99", () -> x.quest(0, 4) + " " + x.quest(0, 5));
            Check.due("risk and limit", "100 9", () -> x.step(0, 0, 0) + " " + x.step(0, 0, 1));
            Check.due("uses", 2, () -> x.amount(0, 0, 1, 0));
            Check.due("after", 1, () -> x.step(0, 1, 4));
            Check.due("goal", "false true", () -> x.holds(0, 1) + " " + x.holds(0, 3));
        }
        Setup.good("ledger;seed " + "0".repeat(700) + "9999;", 0);
        Setup.bad(RANGE, "ledger;seed ", "0".repeat(700) + "10000;");
        Setup.bad(TWICE, "ledger;stock 1 1 ", "001 1;");
    }

    private static void letters() {
        for (String byteBeside : new String[] {"`", "{", "A", "Z", "_", "\u00e4"}) {
            Setup.bad(SYNTAX, "ledger", byteBeside + ";");
            Setup.bad(SYNTAX, "", byteBeside + "ledger;");
        }
        for (String letter : new String[] {"a", "z", "m"}) {
            Setup.bad(SYNTAX, "", "ledger" + letter + ";");
            Setup.bad(SYNTAX, "", letter + "ledger;");
            Setup.bad(SYNTAX, "ledger;", "seed" + letter + " 1;");
        }
        for (String text : new String[] {"Ledger;", "LEDGER;", "ledge r;", "l edger;"}) {
            Setup.bad(SYNTAX, "", text);
        }
        for (String word : new String[] {"stoc", "see", "wort", "ques", "ste", "goa", "use", "need", "give", "afte", "costl", "lengt"}) {
            Setup.bad(SYNTAX, "ledger;", word + " 0 0;");
        }
    }

    private static void longRuns() {
        QuestLedger x = Setup.of("seed 12;");
        Check.due("two digits are one number", 12, () -> x.state(7));
        Setup.bad(SYNTAX, "ledger;seed 1 ", "2;");
        Setup.bad(SYNTAX, "ledger;", "seedseed 1;");
        Setup.bad(SYNTAX, "", "ledgerledger;");
        Setup.bad(SYNTAX, "ledger;quest 0 0;step 0 1 ", "costlyuses 0 1;");
        Setup.bad(SYNTAX, "ledger;quest 0 0;step 0 1;goal 0 ", "orand 0;");
        Setup.bad(SYNTAX, "ledger;quest 0 0;step 0 1;goal 0", "orof 0;");
        Setup.bad(RANGE, "ledger;quest 0 0;step 0 1;goal ", "00001;");
        Setup.bad(SYNTAX, "ledger;worth ", "lengthrisk;");
        Setup.bad(SYNTAX, "ledger;worth done ", "fails;");
    }

    private static void spaces() {
        String[] tokens = {"ledger", ";", "stock", "0", "5", "1", "999", ";", "seed", "1", ";", "worth", "(", "1", "+", "risk", ")", "*", "2", "-", "done", "/",
            "fails", ";", "quest", "1", "2", ";", "step", "3", "4", "uses", "1", "1", "needs", "2", "2", "costly", ";", "step", "5", "6", "after", "0",
            ";", "goal", "1", "and", "2", "of", "(", "0", ",", "1", ")", "or", "(", "0", ")", ";"};
        QuestLedger once = Setup.of(String.join(" ", tokens).substring("ledger ;".length()));
        long due = once.checksum();
        for (int gap = 1; gap <= 5; gap++) {
            String space = " ".repeat(gap);
            QuestLedger x = new QuestLedger();
            String text = space + String.join(space, tokens) + space;
            Check.due(gap + " spaces", 1, () -> Check.load(x, text));
            Check.due(gap + " spaces tell the same", due, x::checksum);
        }
        for (int k = 0; k < tokens.length; k++) {
            String[] wide = tokens.clone();
            wide[k] = " ".repeat(99) + wide[k];
            Setup.good(String.join(" ", wide), 1);
        }
        StringBuilder close = new StringBuilder();
        for (String token : tokens) {
            boolean digits = close.length() > 0 && token.matches("\\d+") && Character.isDigit(close.charAt(close.length() - 1));
            boolean letters = close.length() > 0 && token.matches("[a-z]+") && Character.isLetter(close.charAt(close.length() - 1));
            close.append(digits || letters ? " " : "").append(token);
        }
        QuestLedger y = new QuestLedger();
        Check.due("as few spaces as can be", 1, () -> Check.load(y, close.toString()));
        Check.due("as few spaces as can be tell the same", due, y::checksum);
        Setup.bad(SYNTAX, "", "led ger;");
    }

    private static void sideBySide() {
        QuestLedger x = Setup.of("stock3 5;seed7;quest1 2;step3 4uses1 5needs2 6gives3 7costly;step5 6after0costly;goal1of(0or 1and 0)or 1;worth5;");
        Check.due("stock", 5, () -> x.stock(3));
        Check.due("seed", 7, () -> x.state(7));
        Check.due("reward", "1 2", () -> x.quest(0, 4) + " " + x.quest(0, 5));
        Check.due("risk and limit", "3 4", () -> x.step(0, 0, 0) + " " + x.step(0, 0, 1));
        Check.due("amounts", "5 6 7", () -> x.amount(0, 0, 1, 0) + " " + x.amount(0, 0, 2, 1) + " " + x.amount(0, 0, 3, 2));
        Check.due("costly", "1 1", () -> x.step(0, 0, 5) + " " + x.step(0, 1, 5));
        Check.due("after", 1, () -> x.step(0, 1, 4));
        Check.due("worth", 5, () -> x.worth(0));
        Setup.good("ledger;quest0 0;step0 1;goal0or0and0or1of(0);", 1);
        Setup.bad(SYNTAX, "ledger;seed7", "seed;");
    }

    private static void otherBytes() {
        for (int value = 0; value < 256; value++) {
            char sign = (char) value;
            if (sign != ' ') {
                Setup.bad(SYNTAX, "ledger;", sign + "");
                Setup.bad(SYNTAX, "ledger;seed 5;", sign + "seed 5;");
                boolean digit = sign >= '0' && sign <= '9';
                if (!digit && sign != ';') {
                    Setup.bad(SYNTAX, "ledger;seed 5", sign + ";");
                }
                if (!(sign >= 'a' && sign <= 'z') && !digit) {
                    Setup.bad(SYNTAX, "ledger;seed", sign + "5;");
                }
            }
        }
        Setup.good("ledger;seed 5;", 0);
    }

    private static void numbers() {
        Sentence.test(TERMS, "in stock the amount is 0 to 999.", TextBounds::stocks);
        Sentence.test(TERMS, "A pair is an item and an amount;", TextBounds::pairs);
        Sentence.test(TERMS, "The numbers of quest are the item and the amount of its reward;", TextBounds::questNumbers);
        Sentence.test(TERMS, "those of step are its risk and its limit.", TextBounds::stepNumbers);
        Sentence.test(TERMS, "Behind \"after\" there are steps of the same quest that were told before.", TextBounds::after);
        Sentence.test(TERMS, "A number as a goal is a step of the quest;", TextBounds::goalSteps);
        Sentence.test(TERMS, "ahead of \"of\" it is 1 to 6", TextBounds::aheadOfOf);
        Sentence.test(TERMS, "(it may be more than there are goals: it never holds then).", TextBounds::moreThanGoals);
        Sentence.test(TERMS, "Seed is 0 to 9999", TextBounds::seeds);
        Sentence.test(TERMS, "(0 without it).", TextBounds::withoutSeed);
        Sentence.test(TERMS, "A number as a factor is 0 to 9999.", TextBounds::factors);
    }

    private static void stocks() {
        QuestLedger x = Setup.of("stock 0 0 7 999;");
        Check.due("the least", 0, () -> x.stock(0));
        Check.due("the most", 999, () -> x.stock(7));
        Setup.bad(RANGE, "ledger;stock 0 ", "1000;");
        Setup.bad(RANGE, "ledger;stock 0 0 7 ", "1000;");
        Setup.bad(SYNTAX, "ledger;stock 0 ", "-1;");
    }

    private static void pairs() {
        QuestLedger x = Setup.of("stock 2 1;", Setup.quest("0", "0 1 uses 3 2 4 1 needs 1 3 gives 2 5"));
        Check.due("stock 2 1", "0 1", () -> x.stock(1) + " " + x.stock(2));
        Check.due("uses 3 2", "0 2 1", () -> x.amount(0, 0, 2, 0) + " " + x.amount(0, 0, 3, 0) + " " + x.amount(0, 0, 4, 0));
        Check.due("needs 1 3", "3 0", () -> x.amount(0, 0, 1, 1) + " " + x.amount(0, 0, 3, 1));
        Check.due("gives 2 5", "5 0", () -> x.amount(0, 0, 2, 2) + " " + x.amount(0, 0, 5, 2));
        Setup.bad(SYNTAX, "ledger;stock ", ";");
        Setup.bad(SYNTAX, "ledger;stock 1", ";");
        Setup.bad(SYNTAX, "ledger;stock 1 2 3", ";");
        for (String word : AMOUNTS) {
            Setup.bad(SYNTAX, "ledger;quest 0 0;step 0 1 " + word, ";");
            Setup.bad(SYNTAX, "ledger;quest 0 0;step 0 1 " + word + " 0", ";");
            Setup.bad(SYNTAX, "ledger;quest 0 0;step 0 1 " + word + " 0 1 2", ";");
            Setup.good("ledger;quest 0 0;step 0 1 " + word + " 0 1 1 1 2 1 3 1 4 1 5 1 6 1 7 99;goal 0;", 1);
        }
    }

    private static void questNumbers() {
        Setup.good("ledger;quest 0 0;step 0 1;goal 0;quest 7 99;step 0 1;goal 0;", 2);
        Setup.bad(RANGE, "ledger;quest ", "8 0;");
        Setup.bad(RANGE, "ledger;quest 0 ", "100;");
        Setup.bad(SYNTAX, "ledger;quest ", ";");
        Setup.bad(SYNTAX, "ledger;quest 0", ";");
        Setup.bad(SYNTAX, "ledger;quest 0 0 ", "0;");
        QuestLedger x = Setup.of(Setup.rewarded(5, 6, "0", "0 1"));
        Check.due("the item comes first", "5 6", () -> x.quest(0, 4) + " " + x.quest(0, 5));
    }

    private static void stepNumbers() {
        Setup.good("ledger;quest 0 0;step 0 1;step 100 9;goal 0;", 1);
        Setup.bad(RANGE, "ledger;quest 0 0;step ", "101 1;");
        Setup.bad(RANGE, "ledger;quest 0 0;step 0 ", "0;");
        Setup.bad(RANGE, "ledger;quest 0 0;step 0 ", "10;");
        Setup.bad(SYNTAX, "ledger;quest 0 0;step ", ";");
        Setup.bad(SYNTAX, "ledger;quest 0 0;step 0", ";");
        Setup.bad(SYNTAX, "ledger;quest 0 0;step 0 1 ", "1;");
        QuestLedger x = Setup.of(Setup.quest("0", "8 9"));
        Check.due("the risk comes first", "8 9", () -> x.step(0, 0, 0) + " " + x.step(0, 0, 1));
    }

    private static void after() {
        for (int step = 0; step < 6; step++) {
            String told = "ledger;" + ONE + "quest 0 0;" + "step 0 1;".repeat(step) + "step 0 1 after ";
            for (int other = 0; other < 8; other++) {
                if (other < step) {
                    Setup.good(told + other + ";goal 0;", 2);
                } else {
                    Setup.bad(RANGE, told, other + ";goal 0;");
                }
            }
        }
        Setup.bad(RANGE, "ledger;" + Setup.quest("0", Setup.times(6, "0 1")) + "quest 0 0;step 0 1;step 0 1 after ", "1;");
        Setup.bad(SYNTAX, "ledger;quest 0 0;step 0 1;step 0 1 after", ";");
        Setup.bad(SYNTAX, "ledger;quest 0 0;step 0 1;step 0 1 after ", "costly;");
    }

    private static void goalSteps() {
        for (int count = 1; count <= 6; count++) {
            String told = "ledger;quest 0 0;" + "step 0 1;".repeat(count) + "goal ";
            for (int step = 0; step < 8; step++) {
                for (String ahead : new String[] {"", "0 and ", "0 or ", "(", "1 of (", "1 of (0,"}) {
                    String behind = step + (ahead.indexOf('(') >= 0 ? ");" : ";");
                    if (step < count) {
                        Setup.good(told + ahead + behind, 1);
                    } else {
                        Setup.bad(RANGE, told + ahead, behind);
                    }
                }
            }
        }
        Setup.bad(RANGE, "ledger;" + Setup.quest("5", Setup.times(6, "0 1")) + "quest 0 0;step 0 1;goal ", "1;");
    }

    private static void aheadOfOf() {
        for (int n = 0; n <= 8; n++) {
            String told = "ledger;quest 0 0;step 0 1;goal ";
            if (n >= 1 && n <= 6) {
                Setup.good(told + n + " of (0);", 1);
                Setup.good(told + "(" + n + " of (0));", 1);
            } else {
                Setup.bad(RANGE, told, n + " of (0);");
                Setup.bad(RANGE, told + "1 of (", n + " of (0));");
            }
        }
    }

    private static void moreThanGoals() {
        for (int n = 1; n <= 6; n++) {
            for (int goals = 1; goals <= 6; goals++) {
                QuestLedger x = Setup.of(Setup.quest(n + " of (" + "0,".repeat(goals - 1) + "0)", "0 1"));
                boolean due = n <= goals;
                Check.due(n + " of " + goals, due, () -> x.holds(0, 63));
                Check.due(n + " of " + goals + " with no step", false, () -> x.holds(0, 0));
                Check.due("possible", due, () -> x.possible(0));
            }
        }
    }

    private static void seeds() {
        for (int seed : new int[] {0, 1, 9998, 9999}) {
            QuestLedger x = Setup.of("seed " + seed + ";");
            Check.due("the seed", seed, () -> x.state(7));
        }
        Setup.bad(RANGE, "ledger;seed ", "10000;");
        Setup.bad(SYNTAX, "ledger;seed ", "-1;");
        Setup.bad(SYNTAX, "ledger;seed ", ";");
    }

    private static void withoutSeed() {
        QuestLedger x = Setup.of("seed 77;", ONE);
        Check.load(x, "ledger;" + ONE);
        Check.due("the seed", 0, () -> x.state(7));
        Check.due("a draw of 0", 2, () -> x.attempt(0, 0));
        Check.due("the next seed", 12345, () -> x.state(7));
    }

    private static void factors() {
        for (int number : new int[] {0, 1, 9998, 9999}) {
            QuestLedger x = Setup.of(ONE, "worth " + number + ";");
            Check.due("the worth", number, () -> x.worth(0));
        }
        for (String ahead : new String[] {"", "1+", "1-", "1*", "1/", "(", "(1+((2*"}) {
            Setup.bad(RANGE, "ledger;worth " + ahead, "10000;");
            Setup.good("ledger;worth " + ahead + "9999" + ")".repeat(ahead.replaceAll("[^(]", "").length()) + ";", 0);
        }
        Setup.bad(SYNTAX, "ledger;worth ", "-1;");
    }

    private static void counts() {
        Sentence.test(TERMS, "The statements seed and worth may occur once each, stock several times.", TextBounds::onceEach);
        Sentence.test(TERMS, "Parentheses nest at most 4 deep, in a goal and in a sum.", TextBounds::nesting);
    }

    private static void onceEach() {
        Setup.bad(SYNTAX, "ledger;seed 1;", "seed 1;");
        Setup.bad(SYNTAX, "ledger;seed 1;" + ONE + "stock 0 1;", "seed 2;");
        Setup.bad(SYNTAX, "ledger;worth 1;", "worth 1;");
        Setup.bad(SYNTAX, "ledger;worth 1;" + ONE + "stock 0 1;", "worth 2;");
        Setup.good("ledger;worth 1;seed 1;", 0);
        Setup.good("ledger;seed 1;" + ONE + "worth 1;", 1);
        QuestLedger x = Setup.of("stock 0 1;stock 1 2;", ONE, "stock 2 3;stock 3 4;stock 4 5;stock 5 6;stock 6 7;stock 7 8;");
        for (int item = 0; item < 8; item++) {
            int asked = item;
            Check.due("stock " + item, item + 1, () -> x.stock(asked));
        }
        QuestLedger y = Setup.of("seed 1;worth 1;");
        Check.due("once in each text", 0, () -> Check.load(y, "ledger;seed 2;worth 2;"));
        Check.due("an error in between", SYNTAX, () -> Check.load(y, "ledger;seed 2;worth 2;x"));
        Check.due("once in each text", 0, () -> Check.load(y, "ledger;seed 2;worth 2;"));
    }

    private static void nesting() {
        for (int deep = 0; deep <= 6; deep++) {
            String goal = "ledger;quest 0 0;step 0 1;goal ";
            String close = ")".repeat(deep) + ";";
            if (deep <= 4) {
                Setup.good(goal + "(".repeat(deep) + "0" + close, 1);
                Setup.good(goal + "1 of(".repeat(deep) + "0" + close, 1);
                Setup.good("ledger;worth " + "(".repeat(deep) + "1" + close, 0);
            } else {
                Setup.bad(DEEP, goal + "((((", "(".repeat(deep - 4) + "0" + close);
                Setup.bad(DEEP, goal + "1 of(".repeat(4) + "1 of", "(" + "1 of(".repeat(deep - 5) + "0" + close);
                Setup.bad(DEEP, "ledger;worth ((((", "(".repeat(deep - 4) + "1" + close);
            }
        }
        Setup.good("ledger;quest 0 0;step 0 1;goal ((((0))))and((((0))))or(1 of(((0)),((0)),2 of(0,0)));", 1);
        Setup.good("ledger;worth ((((1))))*((((2))))-(((3)*((4))));quest 0 0;step 0 1;goal((((0))));quest 0 0;step 0 1;goal((((0))));", 2);
        Setup.bad(DEEP, "ledger;quest 0 0;step 0 1;goal ((((0)))and(((", "(0)))));");
        Setup.bad(DEEP, "ledger;worth ((((1)))+(((", "(1)))));");
        QuestLedger x = Setup.of("worth 1+2*(1+2*(1+2*(1+2*(1+2*1))));", Setup.quest("0 and (1 or (0 and (1 or (2 and 3))))", Setup.times(4, "0 1")),
            Setup.quest("1 of (1 of (1 of (6 of (0,1,2,3,4,5))))", Setup.times(6, "0 1")),
            Setup.quest("2 of (0,2 of (1,2 of (2,2 of (3,4,5))))", Setup.times(6, "0 1")));
        Check.due("four deep", 63, () -> x.worth(0));
        for (int steps = 0; steps < 64; steps++) {
            int set = steps;
            boolean lastTwo = Integer.bitCount(set & 56) >= 2;
            Check.due("four deep " + set, (set & 3) == 3 || (set & 13) == 13, () -> x.holds(0, set));
            Check.due("six of six four deep " + set, set == 63, () -> x.holds(1, set));
            Check.due("each one of two deeper ones " + set, (set & 7) == 7 && lastTwo, () -> x.holds(2, set));
        }
    }

    private static void errors() {
        Sentence.test(TERMS, "The first error in the text is the one with the smallest offset.", TextBounds::smallestOffset);
        Sentence.test(TERMS, "If several kinds of error have the same offset, the first one in this list counts:", TextBounds::sameOffset);
    }

    /** Each part has an error of its own; behind another part with an error it does not count. */
    private static void smallestOffset() {
        String[] parts = {"seed x;", "seed 10000;", "stock 0 1 0 1;", "quest 0 0;" + "step 0 1;".repeat(7), "worth (((((1)))));"};
        int[] offsets = {5, 5, 10, 10 + 6 * 9, 10};
        for (int first = 0; first < parts.length; first++) {
            for (int second = 0; second < parts.length; second++) {
                String text = "ledger;stock 1 1;" + parts[first] + parts[second];
                int at = 17 + offsets[first];
                Setup.bad(ERRORS[first], text.substring(0, at), text.substring(at));
            }
        }
        Setup.bad(RANGE, "ledger;stock ", "8 1000 x");
        Setup.bad(RANGE, "ledger;stock 0 ", "1000 0 1;");
        Setup.bad(TWICE, "ledger;stock 0 1 ", "0 1000;");
        Setup.bad(SYNTAX, "ledger;stock 0 ", "x 0 1;");
        Setup.bad(RANGE, "ledger;quest 0 0;step 0 1;goal ", "7 of x");
        Setup.bad(RANGE, "ledger;quest 0 0;step 0 1;goal ", "1 1;");
        Setup.bad(RANGE, "ledger;quest 0 0;step 0 1;goal ((((", "7 of (0)))));");
        Setup.bad(SYNTAX, "ledger;quest 0 0;step 0 1;goal ((((", "of (0)))));");
    }

    private static void sameOffset() {
        String six = "ledger;" + ONE.repeat(5) + "quest 0 0;" + "step 0 1;".repeat(6);
        Setup.bad(SYNTAX, six, "quest 0 0;");
        Setup.bad(SYNTAX, six + "goal 0 ", "quest 0 0;");
        Setup.bad(SYNTAX, six + "goal 0;", "step 0 1;");
        Setup.bad(MANY, six + "goal 0;", "quest 0 0;");
        Setup.bad(MANY, six, "step 0 1;");
        Setup.bad(SYNTAX, "ledger;quest 0 0;" + "step 0 1;".repeat(5) + "step 0 1 ", "step 0 1;");
        Setup.bad(SYNTAX, "ledger;seed 1 ", "10000;");
        Setup.bad(SYNTAX, "ledger;quest 0 0;step 0 1 ", "101;");
        Setup.bad(SYNTAX, "ledger;quest 0 0;step 0 1 uses 0 1 costly ", "0 1;");
        Setup.bad(SYNTAX, "ledger;quest 0 0;step 0 1;goal 0 ", "9;");
        Setup.bad(SYNTAX, "ledger;quest 0 0;step 0 1;goal ((((0", "(0)))));");
        Setup.bad(SYNTAX, "ledger;worth ((((1", "(1)))));");
        Setup.bad(SYNTAX, "ledger;worth 1 ", "99999;");
        Setup.bad(RANGE, "ledger;stock ", "8 1 8 1;");
    }

    private static void errorsOfKinds() {
        Sentence.test(TERMS, "SYNTAX_ERROR: a token or byte that the grammar does not allow here, at its first byte;", TextBounds::notAllowed);
        Sentence.test(TERMS, "the end of the text, at its length, if the text ends too early;", TextBounds::endsTooEarly);
        Sentence.test(TERMS, "a second seed, a second worth, or a second \"costly\" in a step, at its first letter.", TextBounds::secondOnes);
        Sentence.test(TERMS, "OUT_OF_RANGE: a number outside its range, at its first digit;", TextBounds::firstDigit);
        Sentence.test(TERMS, "an item or a step that there is not (of after: that is not told before).", TextBounds::isNot);
        Sentence.test(TERMS, "REPEATED: an item of which the stock is told already,", TextBounds::stockTwice);
        Sentence.test(TERMS, "or that was told already of the same word in the same step, at its first digit;", TextBounds::amountTwice);
        Sentence.test(TERMS, "a step that was told already behind \"after\" in the same step, at its first digit.", TextBounds::afterTwice);
        Sentence.test(TERMS, "TOO_MANY: a 7th quest, or a 7th step of a quest, at the first letter of its word.", TextBounds::sevenths);
        Sentence.test(TERMS, "TOO_DEEP: an opening parenthesis inside 4 others, at that parenthesis.", TextBounds::fifthParenthesis);
    }

    /** A token that stands nowhere is no more allowed at any place. */
    private static void notAllowed() {
        String[] tokens = {"ledger", ";", "stock", "0", "5", ";", "seed", "1", ";", "worth", "(", "1", "+", "risk", ")", "*", "2", ";", "quest", "1", "2", ";",
            "step", "3", "4", "uses", "1", "1", "costly", ";", "step", "5", "6", "after", "0", ";", "goal", "1", "and", "1", "of", "(", "0", ",", "1", ")", ";"};
        StringBuilder ahead = new StringBuilder();
        for (String token : tokens) {
            for (String wrong : new String[] {"hello", "ledger", "!", ".", "\u00ff", "\u0000"}) {
                if (!(ahead.length() == 0 && wrong.equals("ledger"))) {
                    Setup.bad(SYNTAX, ahead.toString(), wrong + " " + token);
                }
            }
            ahead.append(token).append("  ");
        }
        Setup.good(ahead.toString(), 1);
        Setup.bad(SYNTAX, ahead.toString(), ";");
        Setup.bad(SYNTAX, "ledger;quest 0 0;step 0 1;goal (0", ",0);");
        Setup.bad(SYNTAX, "ledger;quest 0 0;step 0 1;goal 0", ",0;");
        Setup.bad(SYNTAX, "ledger;worth (1", ",1);");
    }

    private static void endsTooEarly() {
        String[] tokens = {"ledger", ";", "stock", "0", "5", ";", "seed", "1", ";", "worth", "(", "1", "+", "risk", ")", "*", "2", ";", "quest", "1", "2", ";",
            "step", "3", "4", "uses", "1", "1", "2", "2", "needs", "2", "2", "gives", "3", "3", "costly", ";", "step", "5", "6", "after", "0", ";", "goal", "1",
            "and", "1", "of", "(", "0", ",", "1", ")", "or", "0", ";", "stock", "7", "7", ";"};
        StringBuilder ahead = new StringBuilder();
        int quests = 0;
        for (int k = 0; k < tokens.length; k++) {
            boolean complete = k == 2 || k == 6 || k == 9 || k == 18 || k == 57;
            quests = k == 57 ? 1 : quests;
            for (String end : new String[] {"", " ", "     "}) {
                if (complete) {
                    Setup.good(ahead + end, quests);
                } else {
                    Setup.bad(SYNTAX, ahead + end, "");
                }
            }
            ahead.append(k == 0 ? "" : " ").append(tokens[k]);
        }
        Setup.good(ahead.toString(), 1);
    }

    private static void secondOnes() {
        Setup.bad(SYNTAX, "ledger;seed 1;  ", "seed 1;");
        Setup.bad(SYNTAX, "ledger;seed 1;", "seed 10000;");
        Setup.bad(SYNTAX, "ledger;worth 1;  ", "worth 1;");
        Setup.bad(SYNTAX, "ledger;worth 1;", "worth;");
        String step = "ledger;quest 0 0;step 0 1 ";
        Setup.bad(SYNTAX, step + "costly  ", "costly;");
        Setup.bad(SYNTAX, step + "costly uses 0 1 ", "costly;");
        Setup.bad(SYNTAX, step + "uses 0 1 costly needs 0 1 gives 0 1", "costly uses 0 1;");
        Setup.good(step + "costly;step 0 1 costly;goal 0;quest 0 0;step 0 1 costly;goal 0;", 2);
    }

    private static void firstDigit() {
        for (String zeros : new String[] {"", "0", "000", "0".repeat(50)}) {
            Setup.bad(RANGE, "ledger;stock 0  ", zeros + "1000;");
            Setup.bad(RANGE, "ledger;seed", zeros + "10000;");
            Setup.bad(RANGE, "ledger;worth(", zeros + "10000;");
            Setup.bad(RANGE, "ledger;quest 0 ", zeros + "100;");
            Setup.bad(RANGE, "ledger;quest 0 0;step", zeros + "101 1;");
            Setup.bad(RANGE, "ledger;quest 0 0;step 0 ", zeros + "0;");
            Setup.bad(RANGE, "ledger;quest 0 0;step 0 ", zeros + "10;");
            Setup.bad(RANGE, "ledger;quest 0 0;step 0 1 uses 0 ", zeros + "0;");
            Setup.bad(RANGE, "ledger;quest 0 0;step 0 1 needs 0 ", zeros + "100;");
            Setup.bad(RANGE, "ledger;quest 0 0;step 0 1 gives 0 1 1 ", zeros + "100;");
            Setup.bad(RANGE, "ledger;quest 0 0;step 0 1;goal ", zeros + "7 of (0);");
            Setup.bad(RANGE, "ledger;quest 0 0;step 0 1;goal ", zeros + "0 of (0);");
        }
    }

    private static void isNot() {
        Setup.bad(RANGE, "ledger;stock ", "8 1;");
        Setup.bad(RANGE, "ledger;stock 7 1 ", "08 1;");
        Setup.bad(RANGE, "ledger;quest ", "8 1;");
        for (String word : AMOUNTS) {
            Setup.bad(RANGE, "ledger;quest 0 0;step 0 1 " + word + " ", "8 1;");
            Setup.bad(RANGE, "ledger;quest 0 0;step 0 1 " + word + " 7 1 ", "08 1;");
        }
        Setup.bad(RANGE, "ledger;quest 0 0;step 0 1;goal ", "1;");
        Setup.bad(RANGE, "ledger;quest 0 0;" + "step 0 1;".repeat(6) + "goal 0 or ", "06;");
        Setup.bad(RANGE, "ledger;quest 0 0;step 0 1 after ", "0;");
        Setup.bad(RANGE, "ledger;quest 0 0;step 0 1;step 0 1 after 0 ", "01;step 0 1;goal 0;");
        Setup.bad(RANGE, "ledger;quest 0 0;step 0 1;step 0 1 after ", "2;step 0 1;goal 0;");
    }

    private static void stockTwice() {
        for (int item = 0; item < 8; item++) {
            Setup.bad(TWICE, "ledger;stock " + item + " 0 ", item + " 0;");
            Setup.bad(TWICE, "ledger;stock " + item + " 5;" + ONE + "stock ", "0" + item + " 5;");
            Setup.good("ledger;stock " + item + " 0;stock " + (item + 1) % 8 + " 0;", 0);
        }
        Setup.bad(TWICE, "ledger;stock 0 1 1 1 2 1 3 1 4 1 5 1 6 1 7 1 ", "0 1;");
        QuestLedger x = Setup.of("stock 0 1;");
        Check.due("a repetition", TWICE, () -> Check.load(x, "ledger;stock 0 2 0 3;"));
        Check.due("once in each text", 0, () -> Check.load(x, "ledger;stock 0 2;"));
    }

    private static void amountTwice() {
        for (int k = 0; k < 3; k++) {
            String word = AMOUNTS[k] + " ";
            String other = AMOUNTS[(k + 1) % 3] + " ";
            String step = "ledger;quest 0 0;step 0 1 " + word;
            Setup.bad(TWICE, step + "0 1 ", "0 1;");
            Setup.bad(TWICE, step + "7 99 1 1 ", "007 1;");
            Setup.bad(TWICE, step + "7 99 costly " + other + "7 1 " + word, "7 1;");
            Setup.good(step + "0 1 " + other + "0 1;goal 0;", 1);
            Setup.good(step + "0 1 1 1 " + other + "2 1 " + word + "2 1;step 0 1 " + word + "0 1 1 1;goal 0;quest 0 0;step 0 1 " + word + "0 1;goal 0;", 2);
        }
    }

    private static void afterTwice() {
        String steps = "ledger;quest 0 0;step 0 1;step 0 1;step 0 1 after ";
        Setup.bad(TWICE, steps + "0 ", "0;");
        Setup.bad(TWICE, steps + "1 ", "001;");
        Setup.bad(TWICE, steps + "0 1 ", "0;");
        Setup.bad(TWICE, steps + "0 costly after 1 uses 0 1 after ", "0;");
        Setup.good(steps + "0 after 1;step 0 1 after 0 1 2;goal 0;", 1);
    }

    private static void sevenths() {
        Setup.good("ledger;" + ONE.repeat(6), 6);
        Setup.bad(MANY, "ledger;" + ONE.repeat(6), "quest");
        Setup.bad(MANY, "ledger;" + ONE.repeat(6) + " stock 0 1;  ", "quest 9 9;");
        String steps = "ledger;quest 0 0;" + "step 0 1;".repeat(6);
        Setup.good(steps + "goal 0;" + "quest 0 0;" + "step 0 1;".repeat(6) + "goal 5;", 2);
        Setup.bad(MANY, steps, "step");
        Setup.bad(MANY, steps + "  ", "step 101 0;");
        Setup.bad(MANY, steps + "goal 0;quest 0 0;" + "step 0 1;".repeat(6), "step 0 1;");
    }

    private static void fifthParenthesis() {
        String goal = "ledger;quest 0 0;step 0 1;goal ";
        Setup.good(goal + "((((0))));", 1);
        Setup.bad(DEEP, goal + "((((", "(");
        Setup.bad(DEEP, goal + "( ( ( ( ", "( ( 0");
        Setup.bad(DEEP, goal + "((((0 or ", "(0)))));");
        Setup.bad(DEEP, goal + "((((0)) and ((", "(0)))));");
        Setup.bad(DEEP, goal + "((((1 of ", "(0)))));");
        Setup.bad(DEEP, goal + "2 of (0,1 of (0,(0 and (", "(0)))));");
        Setup.good("ledger;worth ((((1))));", 0);
        Setup.bad(DEEP, "ledger;worth ((((", "(");
        Setup.bad(DEEP, "ledger;worth ((((1+2*", "(1)))));");
        Setup.bad(DEEP, "ledger;worth 1*(2+(3/(4-(5+", "(6)))));");
    }

    private static void constants() {
        String told = "Error code of load: ";
        Sentence.test(TERMS, "The constants: `SYNTAX_ERROR = -2`: " + told + "the text does not follow the grammar.", () -> constant(0, -2));
        Sentence.test(TERMS, "`OUT_OF_RANGE = -3`: " + told + "a number is not allowed.", () -> constant(1, -3));
        Sentence.test(TERMS, "`REPEATED = -4`: " + told + "an item or a step is told twice.", () -> constant(2, -4));
        Sentence.test(TERMS, "`TOO_MANY = -5`: " + told + "too many quests or steps.", () -> constant(3, -5));
        Sentence.test(TERMS, "`TOO_DEEP = -6`: " + told + "parentheses are nested too deeply.", () -> constant(4, -6));
    }

    private static void constant(int kind, int value) {
        Check.due("the constant", value, () -> ERRORS[kind]);
        Check.due("the error code", value, () -> Check.load(new QuestLedger(), WRONG[kind]));
    }

    private static void appending() {
        Sentence.test("Promise 1", "Creates an object without quests, with an empty input buffer.", TextBounds::newObject);
        Sentence.test("Promise 2", "the 4 bytes of each argument, the most significant byte first.", TextBounds::byteOrder);
        Sentence.test("Promise 2", "Returns the new length of the buffer;", TextBounds::newLength);
        Sentence.test("Promise 2", "-1 if it would exceed 800 bytes, and the buffer is unchanged then.", TextBounds::exceeding);
    }

    private static void newObject() {
        QuestLedger x = new QuestLedger();
        Check.due("no quests", 0, () -> x.state(0));
        Check.due("no quest 0", Check.INDEX, () -> x.quest(0, 0));
        Check.due("no byte", Check.ARGUMENT, () -> x.load(1));
        Check.due("an empty text", SYNTAX, () -> x.load(0));
        Check.due("the first bytes", 20, () -> x.append(0, 0, 0, 0, 0));
    }

    /** The text with one byte in place of another; it tells by the offset of the error where that byte has come to. */
    private static void byteOrder() {
        String good = "ledger;stock 0 5 1 6";
        for (int place = 0; place < 20; place++) {
            for (char sign : new char[] {0, 127, 128, 255}) {
                String text = good.substring(0, place) + sign + good.substring(place + 1);
                QuestLedger x = new QuestLedger();
                Check.append(x, text);
                Check.due("byte " + (int) sign + " at " + place, SYNTAX, () -> x.load(20));
                int offset = firstWrong(text, place);
                Check.due("byte " + (int) sign + " at " + place + ": its offset", offset, x::errorOffset);
            }
        }
        QuestLedger y = new QuestLedger();
        Check.due("the bytes one by one", 20, () -> y.append(0x6c656467, 0x65723b73, 0x65656420, 0x31323334, 0x3b202020));
        Check.due("loaded", 0, () -> y.load(20));
        Check.due("the seed", 1234, () -> y.state(7));
    }

    /** A letter run that the byte cuts off is wrong from its own first letter on. */
    private static int firstWrong(String text, int place) {
        int from = place;
        while (from > 0 && Character.isLetter(text.charAt(from - 1)) && text.charAt(from - 1) < 128) {
            from--;
        }
        boolean wholeWord = from == place || text.substring(from, place).equals("ledger") || text.substring(from, place).equals("stock");
        return wholeWord ? place : from;
    }

    private static void newLength() {
        QuestLedger x = new QuestLedger();
        for (int n = 1; n <= 40; n++) {
            int due = 20 * n;
            Check.due("append " + n, due, () -> x.append(-1, 0, Integer.MIN_VALUE, Integer.MAX_VALUE, 1));
        }
        x.load(3);
        Check.due("behind a load", 20, () -> x.append(0, 0, 0, 0, 0));
    }

    private static void exceeding() {
        QuestLedger x = new QuestLedger();
        String text = filled("ledger;seed 12", 800, ";");
        Check.due("800 bytes", 800, () -> Check.append(x, text));
        for (int n = 0; n < 3; n++) {
            Check.due("820 would be too many", -1, () -> x.append(0x78787878, 0x78787878, 0x78787878, 0x78787878, 0x78787878));
        }
        Check.due("no longer than before", Check.ARGUMENT, () -> x.load(801));
        Check.due("the same text", 0, () -> x.load(800));
        Check.due("its seed", 12, () -> x.state(7));
        Check.due("room again", 20, () -> x.append(0, 0, 0, 0, 0));
        QuestLedger y = new QuestLedger();
        Check.due("780 bytes", 780, () -> Check.append(y, " ".repeat(780)));
        Check.due("just 800 bytes", 800, () -> y.append(0, 0, 0, 0, 0));
        Check.due("not one more", -1, () -> y.append(0, 0, 0, 0, 0));
    }

    private static void loading() {
        String load = "Promise 3";
        Sentence.test(load, "Reads the first bytes of the input buffer as a setup text and replaces all data by it;", TextBounds::firstBytes);
        Sentence.test(load, "the queue is empty, and all quests are open.", TextBounds::emptyQueue);
        Sentence.test(load, "The input buffer is empty afterwards, also if the text has an error.", TextBounds::emptyAfterwards);
        Sentence.test(load, "An error leaves all other data unchanged.", TextBounds::errorLeaves);
        Sentence.test(load, "An empty text has a SYNTAX_ERROR.", TextBounds::emptyText);
        Sentence.test(load, "Returns the number of quests;", TextBounds::numberOfQuests);
        Sentence.test(load, "or the error code of the first error.", TextBounds::firstError);
        Sentence.test(load, "Throws `IllegalArgumentException` if length is negative or greater than the length of the buffer;", TextBounds::wrongLength);
        Sentence.test(load, "the buffer is unchanged then", TextBounds::unchangedBuffer);
    }

    private static void firstBytes() {
        String text = "ledger;stock 0 5 1 6;seed 3;";
        int[] whole = {7, 21, 28};
        for (int length : whole) {
            QuestLedger x = new QuestLedger();
            Check.append(x, text);
            Check.due("the first " + length, 0, () -> x.load(length));
            Check.due("stock", length > 7 ? "5 6" : "0 0", () -> x.stock(0) + " " + x.stock(1));
            Check.due("seed", length > 21 ? 3 : 0, () -> x.state(7));
        }
        QuestLedger y = new QuestLedger();
        Check.append(y, text);
        Check.due("cut in a number", SYNTAX, () -> y.load(27));
        Check.due("at the end", 27, y::errorOffset);
        QuestLedger z = Setup.of("stock 0 5;seed 4;worth 9;", Setup.rewarded(1, 2, "0 or 1", "3 4 uses 1 1 costly", "5 6 after 0"));
        Check.due("all data are replaced", 1, () -> Check.load(z, "ledger;" + ONE));
        long due = Setup.of(ONE).checksum();
        Check.due("nothing is left", due, z::checksum);
        Check.due("not even an amount", 0, () -> z.amount(0, 0, 1, 0));
        Check.due("nor the goal", "true false", () -> z.holds(0, 1) + " " + z.holds(0, 2));
        Check.due("no quests at all", 0, () -> Check.load(z, "ledger;"));
        Check.due("nothing is left", 0L, z::checksum);
        nothingIsLeft();
    }

    /** Whatever an older text, a text with an error, a campaign or a question has told does not come into a new text. */
    private static void nothingIsLeft() {
        String rich = Setup.rewarded(1, 2, "0 and 1", "3 4 uses 1 1 2 2 needs 3 3 gives 4 4 costly", "5 6 needs 5 5 gives 6 6 after 0 uses 7 7 costly");
        String stock = "stock 1 99 2 99 3 99 5 99 7 99;";
        String plain = Setup.quest("1", "0 1", "0 1");
        QuestLedger x = Setup.of(stock, "seed 4;worth 9;", rich.repeat(3));
        x.tell(99, 99);
        x.tell(0, 99);
        x.attempt(0, 0);
        x.attempt(0, 1);
        x.attempt(1, 0);
        x.giveUp(1);
        Check.due("a campaign", 1, x::campaign);
        Check.due("a question", 0, () -> x.lacking(2, 1));
        Check.due("a text with an error", SYNTAX, () -> Check.load(x, "ledger;stock 0 7;seed 8;" + rich.repeat(3) + "x"));
        Check.due("a new text", 2, () -> Check.load(x, "ledger;" + stock + plain.repeat(2)));
        long due = Setup.of(stock, plain, plain).checksum();
        Check.due("just as on a new object", due, x::checksum);
        for (int quest = 0; quest < 2; quest++) {
            for (int item = 0; item < 8; item++) {
                int q = quest;
                int i = item;
                Check.due("uses, needs and gives", "0 0 0 0 0 0", () -> x.amount(q, 0, i, 0) + " " + x.amount(q, 0, i, 1) + " " + x.amount(q, 0, i, 2)
                    + " " + x.amount(q, 1, i, 0) + " " + x.amount(q, 1, i, 1) + " " + x.amount(q, 1, i, 2));
            }
        }
        Check.due("two of two", "2 0", () -> x.campaign() + " " + x.best());
        x.play(0);
        x.play(1);
        Check.due("none of two", "0 -1 0", () -> x.campaign() + " " + x.best() + " " + x.state(8));
        QuestLedger y = Setup.of(Setup.quest("5", Setup.times(6, "7 9")).repeat(6));
        for (int steps = 1; steps <= 6; steps++) {
            String fewer = Setup.quest("0", Setup.times(steps, "0 1"));
            int all = (1 << steps) - 1;
            Check.due("a text with fewer steps", 6, () -> Check.load(y, "ledger;" + fewer.repeat(6)));
            Check.due("steps, and ways that end with 0", steps + " " + all + " " + (1 << steps - 1) + " 1 0",
                () -> y.quest(5, 0) + " " + y.quest(5, 7) + " " + y.endings(5) + " " + y.planLength(5) + " " + y.safest(5));
            Check.load(y, "ledger;" + Setup.quest("5", Setup.times(6, "7 9")).repeat(6));
        }
    }

    private static void emptyQueue() {
        QuestLedger x = Setup.of(ONE, ONE, ONE);
        x.tell(50, 50);
        x.attempt(0, 0);
        x.giveUp(1);
        Check.due("the same text", 3, () -> Check.load(x, "ledger;" + ONE.repeat(3)));
        Check.due("the queue", 0, () -> x.state(6));
        Check.due("none done, none lost", "0 0", () -> x.state(2) + " " + x.state(3));
        Check.due("no step done, no fails", "0 0", () -> x.state(4) + " " + x.state(5));
        Check.due("it is the seed that draws", 12345, () -> {
            x.attempt(0, 0);
            return x.state(7);
        });
        QuestLedger full = new QuestLedger();
        for (int n = 0; n < 20; n++) {
            full.tell(0, 99);
        }
        full.campaign();
        Check.load(full, "ledger;");
        Check.due("a full queue is empty too", 2, () -> full.tell(0, 0));
    }

    private static void emptyAfterwards() {
        for (String text : new String[] {"ledger;", WRONG[0], WRONG[1], WRONG[2], WRONG[3], WRONG[4], "", " "}) {
            QuestLedger x = new QuestLedger();
            Check.append(x, filled(text, 400, ""));
            x.load(text.length());
            Check.due("no byte behind " + text, Check.ARGUMENT, () -> x.load(1));
            Check.due("an empty text behind " + text, SYNTAX, () -> x.load(0));
            Check.due("its offset", 0, x::errorOffset);
            Check.due("the first bytes behind " + text, 20, () -> x.append(0x6c656467, 0x65723b20, 0x20202020, 0x20202020, 0x20202020));
            Check.due("just these bytes", 0, () -> x.load(20));
        }
    }

    private static void errorLeaves() {
        for (int kind = 0; kind < WRONG.length; kind++) {
            String text = WRONG[kind].replace("ledger;", "ledger;stock 7 7;");
            int error = ERRORS[kind];
            for (int look = 0; look < Refusals.LOOKS_AT_DATA; look++) {
                QuestLedger x = Refusals.wellUsed();
                int asked = look;
                Check.due("the waiting text is away", SYNTAX, () -> x.load(0));
                Check.due(text, error, () -> Check.load(x, text));
                Check.due("the data behind " + text, Refusals.look(Refusals.wellUsed(), look), () -> Refusals.look(x, asked));
            }
        }
    }

    private static void emptyText() {
        QuestLedger x = new QuestLedger();
        Check.due("of an empty buffer", SYNTAX, () -> x.load(0));
        Check.due("its offset", 0, x::errorOffset);
        Check.append(x, "ledger;");
        Check.due("of a buffer with a text", SYNTAX, () -> x.load(0));
        Check.due("its offset", 0, x::errorOffset);
        Check.append(x, "ledger;");
        Check.due("of spaces", SYNTAX, () -> Check.load(new QuestLedger(), "     "));
    }

    private static void numberOfQuests() {
        for (int count = 0; count <= 6; count++) {
            Setup.good("ledger;" + ONE.repeat(count), count);
        }
    }

    private static void firstError() {
        for (int kind = 0; kind < WRONG.length; kind++) {
            Setup.bad(ERRORS[kind], WRONG[kind].substring(0, OFFSETS[kind]), WRONG[kind].substring(OFFSETS[kind]));
        }
    }

    private static void wrongLength() {
        QuestLedger x = new QuestLedger();
        Setup.beside("load of an empty buffer", 0, 0, Check.ARGUMENT, x::load);
        Check.append(x, "ledger;");
        Setup.beside("load of 20 bytes", 0, 20, Check.ARGUMENT, x::load);
        Check.due("just 20 bytes", 0, () -> x.load(20));
        Check.append(x, filled("ledger;", 800, ""));
        Setup.beside("load of 800 bytes", 0, 800, Check.ARGUMENT, x::load);
        Check.due("just 800 bytes", 0, () -> x.load(800));
    }

    private static void unchangedBuffer() {
        QuestLedger x = new QuestLedger();
        Check.append(x, "ledger;seed 5;");
        Check.due("too long", Check.ARGUMENT, () -> x.load(21));
        Check.due("negative", Check.ARGUMENT, () -> x.load(-1));
        Check.due("still 20 bytes", 40, () -> x.append(0x73746f63, 0x6b20313b, 0, 0, 0));
        Check.due("too long", Check.ARGUMENT, () -> x.load(41));
        Check.due("the same bytes", 0, () -> x.load(20));
        Check.due("the same seed", 5, () -> x.state(7));
    }

    private static void offsets() {
        String offset = "Promise 4";
        Sentence.test(offset, "Returns the offset of the error found by the latest call of load that did not throw;", TextBounds::latestLoad);
        Sentence.test(offset, "-1 if it found none or if there was no such call.", TextBounds::noneFound);
    }

    private static void latestLoad() {
        QuestLedger x = new QuestLedger();
        for (int kind = 0; kind < WRONG.length; kind++) {
            int error = ERRORS[kind];
            int due = OFFSETS[kind];
            String text = WRONG[kind];
            Check.due(text, error, () -> Check.load(x, text));
            Check.due("its offset", due, x::errorOffset);
            Check.due("a load that throws", Check.ARGUMENT, () -> x.load(1));
            Check.due("a load that throws", Check.ARGUMENT, () -> x.load(-1));
            Check.due("the same offset", due, x::errorOffset);
            x.append(0, 0, 0, 0, 0);
            x.add(0, 1);
            x.undo();
            Check.due("still the same offset", due, x::errorOffset);
            x.load(0);
        }
        Check.due("the last byte of 800", SYNTAX, () -> Check.load(x, filled("ledger;", 800, "!")));
        Check.due("its offset", 799, x::errorOffset);
        Check.due("the end of 800", SYNTAX, () -> Check.load(x, filled("ledger", 800, "")));
        Check.due("its offset", 800, x::errorOffset);
    }

    private static void noneFound() {
        QuestLedger x = new QuestLedger();
        Check.due("no call", -1, x::errorOffset);
        Check.due("a load that throws", Check.ARGUMENT, () -> x.load(1));
        Check.due("no call that did not throw", -1, x::errorOffset);
        x.load(0);
        Check.due("an error", 0, x::errorOffset);
        Check.due("no error", 0, () -> Check.load(x, "ledger;"));
        Check.due("none found", -1, x::errorOffset);
        Check.due("a load that throws", Check.ARGUMENT, () -> x.load(1));
        Check.due("none found", -1, x::errorOffset);
    }
}
