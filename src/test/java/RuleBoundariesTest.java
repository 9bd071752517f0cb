/**
 * The boundaries of texts, rules, productions, starts and levels: each sentence of the document by its name,
 * with the last value inside and the first one outside.
 */
public final class RuleBoundariesTest extends Checks {
    private static final Maker RICH = Checks::rich;
    private static final Maker RICH_IN_OTHER = Checks::richInOther;
    /** 24 letters that are a rule, and 24 that are none yet. */
    private static final String LONGEST = "A:a|aa|aaa|aaaa|aaaaa|aa", UNFINISHED = "A:a|aa|aaa|aaaa|aaaaa|a%";

    public static void main(String[] args) {
        Runnable[] sentences = {
            RuleBoundariesTest::lettersOfARule, RuleBoundariesTest::rule, RuleBoundariesTest::choice,
            RuleBoundariesTest::sequence, RuleBoundariesTest::item, RuleBoundariesTest::part,
            RuleBoundariesTest::placeOfAFault, RuleBoundariesTest::fromTheLeft, RuleBoundariesTest::brackets,
            RuleBoundariesTest::signs, RuleBoundariesTest::sequences, RuleBoundariesTest::lowestHelper,
            RuleBoundariesTest::typeBehind, RuleBoundariesTest::typeLetters, RuleBoundariesTest::typeReturns,
            RuleBoundariesTest::typeNone, RuleBoundariesTest::typeFull, RuleBoundariesTest::wipe,
            RuleBoundariesTest::wipeReturns, RuleBoundariesTest::fault, RuleBoundariesTest::enterStays,
            RuleBoundariesTest::enterReturns, RuleBoundariesTest::enterNoRule, RuleBoundariesTest::enterProductions,
            RuleBoundariesTest::enterSymbols, RuleBoundariesTest::enterHelpers, RuleBoundariesTest::undoTakes,
            RuleBoundariesTest::undoReturns, RuleBoundariesTest::undoNone, RuleBoundariesTest::bringNames,
            RuleBoundariesTest::bringAll, RuleBoundariesTest::bringOf, RuleBoundariesTest::bringReturns,
            RuleBoundariesTest::bringOutOfRange, RuleBoundariesTest::bringNoRoom, RuleBoundariesTest::startSets,
            RuleBoundariesTest::startOf, RuleBoundariesTest::startReturns, RuleBoundariesTest::startThrows,
            RuleBoundariesTest::levelSets, RuleBoundariesTest::levelOf, RuleBoundariesTest::levelReturns,
            RuleBoundariesTest::levelNoTerminalOrSide, RuleBoundariesTest::levelOutOfRange,
            RuleBoundariesTest::productions, RuleBoundariesTest::left, RuleBoundariesTest::leftThrows,
            RuleBoundariesTest::right, RuleBoundariesTest::rightReturns, RuleBoundariesTest::rightThrows};
        for (Runnable sentence : sentences) {
            sentence.run();
        }
        wholly("Rules", "Promise 2", "Promise 3", "Promise 4", "Promise 5", "Promise 6", "Promise 8", "Promise 9",
                "Promise 10", "Promise 11", "Promise 12", "Promise 13");
        finish();
    }

    // ---- texts

    private static void faultIs(String text, int want) {
        Grammarsmith x = new Grammarsmith();
        type(x, text);
        due("fault of " + text, x, Grammarsmith::fault, want);
        due("the letters of " + text, x, Grammarsmith::wipe, text.length());
    }

    private static void areRules(String... texts) {
        for (String text : texts) {
            faultIs(text, NONE);
        }
    }

    private static void lettersOfARule() {
        says("Rules", "A rule is typed as a text, letter by letter, of at most 24 letters, of this kind:", 2, 4, 5);
        areRules(LONGEST);
        due("a rule of 24 letters", typed(LONGEST).make(), Grammarsmith::enter, 6);
        same("all of its letters", rights(with(LONGEST)), "A:a A:aa A:aaa A:aaaa A:aaaaa A:aa ");
        refusedWithout("a 25th letter", typed(LONGEST, "B:b"), o -> o.type('a'), STATE);
        refusedWithout("a 25th letter that would make it a rule", typed(UNFINISHED, "B:b"), o -> o.type('a'), STATE);
    }

    private static void rule() {
        says("Rules", "rule: a nonterminal, \":\", and a choice.", 4, 5);
        areRules("A:", "H:", "A:a", "H:h");
        faultIs("a:", 0);
        faultIs("h:", 0);
        faultIs(":", 0);
        faultIs("(", 0);
        faultIs("A", 1);
        faultIs("AA:", 1);
        faultIs("A|", 1);
        faultIs("A::", 2);
        faultIs("A:a:", 3);
        faultIs("A:aA:", 4);
    }

    private static void choice() {
        says("Rules", "choice: sequences with \"|\" between them, one at least.", 4, 5);
        areRules("A:a", "A:a|b", "A:|", bars(23), "A:(a)", "A:(a|b)");
        due("one sequence", typed("A:").make(), Grammarsmith::enter, 1);
        due("two sequences", typed("A:|").make(), Grammarsmith::enter, 2);
        due("23 sequences in 24 letters", typed(bars(23)).make(), Grammarsmith::enter, 23);
    }

    private static void sequence() {
        says("Rules", "sequence: items, perhaps none.", 4, 5);
        areRules("A:", "A:|a", "A:a|", "A:a||a", "A:()", "A:(|)", "A:(a|)", "A:(|a)", "A:aaaaaaaaaaaaaaaaaaaaaa");
    }

    private static void item() {
        says("Rules", "item: a part; or a part and one of \"?\", \"*\", \"+\"; or a part, \"%\" and a terminal.", 4, 5);
        areRules("A:a?", "A:B*", "A:()+", "A:a%a", "A:B%h", "A:()%h", "A:a?a*a+a%aa", "A:a%aa%h");
        for (char sign : "?*+%".toCharArray()) {
            faultIs("A:" + sign, 2);
            faultIs("A:a|" + sign, 4);
            faultIs("A:(" + sign, 3);
            for (char first : "?*+".toCharArray()) {
                faultIs("A:a" + first + sign, 4);
            }
            faultIs("A:a%b" + sign, 5);
            faultIs("A:a%" + sign, 4);
        }
        for (char noTerminal : "AH(|):".toCharArray()) {
            faultIs("A:a%" + noTerminal, 4);
        }
        faultIs("A:a%", 4);
        faultIs("A:(a%)", 5);
    }

    private static void part() {
        says("Rules", "part: a terminal; a nonterminal; or \"(\", a choice and \")\".", 4, 5);
        areRules("A:a", "A:h", "A:A", "A:H", "A:()", "A:(a)", "A:((a))", "A:" + "(".repeat(11) + ")".repeat(11));
        faultIs("A:)", 2);
        faultIs("A:())", 4);
        faultIs("A:(()))", 6);
        faultIs("A:(a|b)c)", 8);
        faultIs("A:(", 3);
        faultIs("A:(()", 5);
    }

    private static void placeOfAFault() {
        says("Rules", "Its fault is the place, from 0 on, of the first letter with which no rule, however long, could "
                + "go on there; its length, if it is only too short; NONE if it is a rule.", 4);
        faultIs("", 0);
        faultIs("a", 0);
        faultIs("aaaaaaaaaaaaaaaaaaaaaaaa", 0);
        faultIs("A", 1);
        faultIs("Aa", 1);
        faultIs("A:?)?", 2);
        faultIs("A:", NONE);
        faultIs("A:((((((((((((((((((((((", 24);
        faultIs("A:aaaaaaaaaaaaaaaaaaaaa%", 24);
        faultIs("A:aaaaaaaaaaaaaaaaaaaaa(", 24);
        faultIs("A:aaaaaaaaaaaaaaaaaaaaa:", 23);
        faultIs("A:aaaaaaaaaaaaaaaaaaaaa)", 23);
        faultIs("A:aaaaaaaaaaaaaaaaaaaa?*", 23);
        faultIs("A:aaaaaaaaaaaaaaaaaaaa%A", 23);
        faultIs("A:aaaaaaaaaaaaaaaaaaaaa?", NONE);
        faultIs("A:aaaaaaaaaaaaaaaaaaaa%a", NONE);
    }

    // ---- what a rule becomes

    private static void fromTheLeft() {
        says("Rules", "A rule that is entered becomes productions, as it is read from the left to the right.", 5);
        becomes("A:a?b?", "8: 8:a 9: 9:b A:89 ");
        becomes("A:(a?(b))c?", "8: 8:a 9:b 10:89 11: 11:c A:1011 ");
        becomes("A:a?|b?", "8: 8:a 9: 9:b A:8 A:9 ");
    }

    private static void brackets() {
        says("Rules", "When a \")\" is read, a new helper stands for what is in the brackets, with one production for "
                + "each of its sequences, in their order.", 5);
        becomes("A:()", "8: A:8 ");
        becomes("A:(|)", "8: 8: A:8 ");
        becomes("A:(b|a|)", "8:b 8:a 8: A:8 ");
        becomes("A:((b)(a))", "8:b 9:a 10:89 A:10 ");
        becomes("A:(abcde)", "8:abcde A:8 ");
        becomes("A:(" + "|".repeat(20) + ")", "8: ".repeat(21) + "A:8 ");
    }

    private static void signs() {
        says("Rules", "When the \"?\", \"*\" or \"+\" of an item, or the terminal behind its \"%\", has been read, a "
                + "new helper H stands for the item; with X for its part (a helper, if that is in brackets), and t for "
                + "the terminal, it has two productions, in this order: for ? an empty one, and X; for * an empty "
                + "one, and H X; for + X, and H X; for % X, and H t X.", 5);
        becomes("A:h?", "8: 8:h A:8 ");
        becomes("A:h*", "8: 8:8h A:8 ");
        becomes("A:h+", "8:h 8:8h A:8 ");
        becomes("A:h%a", "8:h 8:8ah A:8 ");
        becomes("A:H?", "8: 8:H A:8 ");
        becomes("A:H%h", "8:H 8:8hH A:8 ");
        becomes("A:()?", "8: 9: 9:8 A:9 ");
        becomes("A:(a)*", "8:a 9: 9:98 A:9 ");
        becomes("A:(a|b)+", "8:a 8:b 9:8 9:98 A:9 ");
        becomes("A:(abcde)%a", "8:abcde 9:8 9:9a8 A:9 ");
        becomes("A:ab%cd", "8:b 8:8cb A:a8d ");
    }

    private static void sequences() {
        says("Rules", "When the whole rule has been read, its nonterminal gets one production for each of its "
                + "sequences, in their order.", 5);
        becomes("H:", "H: ");
        becomes("H:|", "H: H: ");
        becomes("H:b|a|", "H:b H:a H: ");
        becomes("H:b|(c)|a", "8:c H:b H:8 H:a ");
        becomes("H:abcde|edcba", "H:abcde H:edcba ");
    }

    private static void lowestHelper() {
        says("Rules", "A new helper is the lowest one that no production of the grammar has on its left or right.",
                5, 6, 8);
        Grammarsmith x = with("A:(a)(b)(c)", "B:(((d)))");
        String six = "8:a 9:b 10:c A:8910 11:d 12:11 13:12 B:13 ";
        same("six helpers", rights(x), six);
        enter(x, "C:e?f?");
        same("the last two helpers", rights(x), six + "14: 14:e 15: 15:f C:1415 ");
        x.undo();
        x.undo();
        enter(x, "D:h?");
        same("a helper that is free again", rights(x), "8:a 9:b 10:c A:8910 11: 11:h D:11 ");
        x.undo();
        x.undo();
        enter(x, "D:h?");
        same("the first helper again", rights(x), "8: 8:h D:8 ");
        x.use(1);
        enter(x, "E:g?");
        same("helpers of the other grammar are not taken", rights(x), "8: 8:g E:8 ");
    }

    // ---- type, wipe, fault

    private static void typeBehind() {
        promise(2, "Types a letter behind the text.");
        Grammarsmith x = new Grammarsmith();
        x.type('A');
        x.type(':');
        x.type('b');
        x.type('a');
        x.enter();
        same("the letters in their order", rights(x), "A:ba ");
        x.type('h');
        x.enter();
        same("a letter behind a text that was entered", rights(x), "A:ba A:bah ");
    }

    private static void typeLetters() {
        promise(2, "- `letter`: a to h, A to H, or one of : | ( ) ? * + %");
        String letters = "abcdefghABCDEFGH:|()?*+%";
        for (char letter : letters.toCharArray()) {
            due("type " + letter, new Grammarsmith(), o -> o.type(letter), 1);
        }
        Grammarsmith x = new Grammarsmith();
        for (int k = 0; k <= 65535; k++) {
            char letter = (char) k;
            if (k % 500 == 0) {
                due("letters", x, Grammarsmith::wipe, 0);
                x = new Grammarsmith();
            }
            if (letters.indexOf(letter) < 0) {
                refused("type " + k, x, o -> o.type(letter), ARGUMENT);
            }
        }
    }

    private static void typeReturns() {
        promise(2, "Returns how many letters it has then.");
        Grammarsmith x = new Grammarsmith();
        for (int k = 1; k <= 24; k++) {
            due("letter " + k, x, o -> o.type('a'), k);
        }
        x.wipe();
        due("the first letter again", x, o -> o.type('a'), 1);
    }

    private static void typeNone() {
        promise(2, "Throws `IllegalArgumentException` if letter is none of these");
        for (char letter : "`i@I9;{}'\",/>$& \u0000\u0161\uff21\uffff".toCharArray()) {
            refusedWithout("type " + (int) letter, RICH, o -> o.type(letter), ARGUMENT);
        }
        refusedWithout("type i into nothing", typed("", "A:a"), o -> o.type('i'), ARGUMENT);
    }

    private static void typeFull() {
        promise(2, "Throws `IllegalStateException` if it has 24 letters");
        for (char letter : "ahAH:|()?*+%".toCharArray()) {
            due("the 24th letter " + letter, typed(LONGEST.substring(0, 23)).make(), o -> o.type(letter), 24);
            refusedWithout("the 25th letter " + letter, typed(LONGEST, "A:a?"), o -> o.type(letter), STATE);
        }
        Grammarsmith x = typed(LONGEST).make();
        x.wipe();
        type(x, LONGEST);
        refused("a 25th letter behind wipe", x, o -> o.type('a'), STATE);
    }

    private static void wipe() {
        promise(3, "Empties the text.");
        for (String text : new String[] {"", "A", "A:a", LONGEST, UNFINISHED}) {
            Grammarsmith x = typed(text, "B:b").make();
            x.wipe();
            due("fault behind wipe", x, Grammarsmith::fault, 0);
            refused("enter behind wipe", x, Grammarsmith::enter, ARGUMENT);
            due("the next letter", x, o -> o.type('A'), 1);
            same("the rules stay", rights(x), "B:b ");
        }
    }

    private static void wipeReturns() {
        promise(3, "Returns how many letters it had.");
        for (int length = 0; length <= 24; length++) {
            Grammarsmith x = typed(LONGEST.substring(0, length)).make();
            due("wipe", x, Grammarsmith::wipe, length);
            due("wipe again", x, Grammarsmith::wipe, 0);
        }
    }

    private static void fault() {
        promise(4, "Returns the fault of the text.");
        Grammarsmith x = new Grammarsmith();
        String text = "A:(a|b%c)?)";
        int[] faults = {0, 1, NONE, 3, 4, 5, 6, 7, 8, NONE, NONE, 10};
        for (int length = 0; length <= text.length(); length++) {
            due("fault of " + text.substring(0, length), x, Grammarsmith::fault, faults[length]);
            if (length < text.length()) {
                x.type(text.charAt(length));
            }
        }
        x.wipe();
        due("fault behind wipe", x, Grammarsmith::fault, 0);
    }

    // ---- enter

    private static void enterStays() {
        promise(5, "Enters the text as a rule; the text stays.");
        Grammarsmith x = typed(LONGEST).make();
        x.enter();
        due("the letters", x, Grammarsmith::wipe, 24);
        Grammarsmith twice = typed("A:").make();
        twice.enter();
        twice.enter();
        same("entered twice", rights(twice), "A: A: ");
        twice.undo();
        same("undo of the second", rights(twice), "A: ");
    }

    private static void enterReturns() {
        promise(5, "Returns how many productions the grammar has then.");
        Grammarsmith x = typed("A:").make();
        for (int k = 1; k <= 24; k++) {
            due("enter", x, Grammarsmith::enter, k);
        }
        due("with helpers", typed("A:(a|b)?c%d", "B:b|c").make(), Grammarsmith::enter, 9);
    }

    private static void enterNoRule() {
        promise(5, "Throws `IllegalArgumentException` if the text is no rule");
        for (String text : new String[] {"", "A", "a:", "A:(", "A:)", "A:a%", "A:a??", UNFINISHED,
            "A:aaaaaaaaaaaaaaaaaaaaa)"}) {
            refusedWithout("enter " + text, typed(text, "A:ab", "B:(a)"), Grammarsmith::enter, ARGUMENT);
        }
        due("the shortest rule", typed("A:", "A:ab").make(), Grammarsmith::enter, 2);
    }

    /** A rule that fits behind so many productions, and does not behind one more. */
    private static void fitsBehind(String text, int productions) {
        Maker fitting = typed(text, bars(20), bars(productions - 20));
        due("enter " + text, fitting.make(), Grammarsmith::enter, 24);
        Maker full = typed(text, bars(20), bars(productions - 19));
        refusedWithout("enter " + text, full, Grammarsmith::enter, STATE);
    }

    private static void enterProductions() {
        promise(5, "Throws `IllegalStateException` if there would be more than 24 productions");
        fitsBehind("B:a", 23);
        fitsBehind("B:", 23);
        fitsBehind("B:a|b", 22);
        fitsBehind("B:|", 22);
        fitsBehind("B:(a)", 22);
        fitsBehind("B:(a|b)", 21);
        fitsBehind("B:(a)|b", 21);
        for (String item : new String[] {"a?", "a*", "a+", "a%b"}) {
            fitsBehind("B:" + item, 21);
        }
        refusedWithout("a helper's second production", typed("B:a?", bars(20), "A:||"), Grammarsmith::enter, STATE);
        refusedWithout("a helper's first production", typed("B:a?", bars(20), "A:|||"), Grammarsmith::enter, STATE);
        refusedWithout("the rule again", typed(bars(13), bars(12)), Grammarsmith::enter, STATE);
        due("the rule again", typed(bars(12), bars(12)).make(), Grammarsmith::enter, 24);
    }

    private static void enterSymbols() {
        promise(5, ", or more than 5 symbols on a right,");
        becomes("A:abcde", "A:abcde ");
        becomes("A:ABCDE", "A:ABCDE ");
        becomes("A:a|abcde", "A:a A:abcde ");
        becomes("A:abcde|a", "A:abcde A:a ");
        becomes("A:()()()()()", "8: 9: 10: 11: 12: A:89101112 ");
        becomes("A:(abcde)", "8:abcde A:8 ");
        becomes("A:(a|abcde)", "8:a 8:abcde A:8 ");
        becomes("A:abcd(a)", "8:a A:abcd8 ");
        becomes("A:a?bcde", "8: 8:a A:8bcde ");
        becomes("A:a%bcdef", "8:a 8:8ba A:8cdef ");
        becomes("A:(abcde)%a", "8:abcde 9:8 9:9a8 A:9 ");
        becomes("A:aaaaa|bbbbb|ccccc", "A:aaaaa A:bbbbb A:ccccc ");
        String[] more = {"A:abcdea", "A:ABCDEF", "A:a|abcdea", "A:abcdea|a", "A:()()()()()()", "A:(abcdea)",
            "A:(a|abcdea)", "A:(abcdea|a)", "A:abcde(a)", "A:abcdea?", "A:a?bcdea", "A:abcdea%b", "A:a%bcdefa",
            "A:(abcdea)?", "A:a%aa%aa%aa%aa%aa", "A:aaaaaaaaaaaaaaaaaaaaaa"};
        for (String text : more) {
            refusedWithout("enter " + text, typed(text, "A:ab", "B:(a)"), Grammarsmith::enter, STATE);
        }
    }

    private static void enterHelpers() {
        promise(5, " or no helper is left for one that is needed");
        due("eight helpers", typed("A:((((((((a))))))))").make(), Grammarsmith::enter, 9);
        refusedWithout("nine helpers", typed("A:(((((((((a)))))))))", "A:ab"), Grammarsmith::enter, STATE);
        String[] seven = {"A:(((((((a)))))))"};
        String[] eight = {"A:((((((((a))))))))"};
        for (String item : new String[] {"()", "(a)", "a?", "a*", "a+", "a%b", "B?"}) {
            int count = item.startsWith("(") ? 10 : 11;
            due("an eighth helper " + item, typed("B:" + item, seven).make(), Grammarsmith::enter, count);
            refusedWithout("a ninth helper " + item, typed("B:" + item, eight), Grammarsmith::enter, STATE);
        }
        refusedWithout("an eighth, and a ninth helper", typed("B:(a)?", seven), Grammarsmith::enter, STATE);
        due("no helper is needed", typed("B:aBc|", eight).make(), Grammarsmith::enter, 11);
        Grammarsmith x = typed("B:(a)", eight).make();
        x.use(1);
        due("helpers of the other grammar", x, Grammarsmith::enter, 2);
    }

    // ---- undo

    private static void undoTakes() {
        promise(6, "Takes the rule that was entered, or brought, last away, with all its productions.");
        Grammarsmith x = with("A:a", "A:(a|b)?c%d", "A:|");
        x.undo();
        same("one rule less", rights(x), "A:a 8:a 8:b 9: 9:8 10:c 10:10dc A:910 ");
        x.undo();
        same("two rules less", rights(x), "A:a ");
        Grammarsmith brought = with("H:h");
        brought.use(1);
        enter(brought, "A:a|c", "A:(a)b?");
        brought.use(0);
        brought.bring(1);
        same("two rules brought", rights(brought), "H:h B:a B:c 8:a 9: 9:b B:89 ");
        brought.undo();
        same("the rule brought last is gone", rights(brought), "H:h B:a B:c ");
        brought.undo();
        same("the rule brought first is gone", rights(brought), "H:h ");
        brought.use(1);
        due("the other grammar keeps its rules", brought, Grammarsmith::productions, 6);
    }

    private static void undoReturns() {
        promise(6, "Returns how many productions the grammar has then.");
        Grammarsmith x = typed("A:").make();
        for (int k = 0; k < 24; k++) {
            x.enter();
        }
        for (int k = 23; k >= 0; k--) {
            due("undo", x, Grammarsmith::undo, k);
        }
        Grammarsmith few = with(bars(23), "B:b");
        dues("undo", few, new Call[] {Grammarsmith::undo, Grammarsmith::undo}, 23, 0);
    }

    private static void undoNone() {
        promise(6, "Throws `IllegalStateException` if there is no rule");
        refusedWithout("undo at first", typed("A:a"), Grammarsmith::undo, STATE);
        Maker none = () -> {
            Grammarsmith x = rich();
            x.undo();
            x.undo();
            return x;
        };
        refusedWithout("undo behind the first rule", none, Grammarsmith::undo, STATE);
        due("undo of the only rule", with("A:a"), Grammarsmith::undo, 0);
        Maker otherHas = other(new String[] {}, "A:a", "B:b");
        refusedWithout("undo where the other grammar has rules", otherHas, Grammarsmith::undo, STATE);
    }

    // ---- bring

    private static void bringNames() {
        promise(8, "in place of the nonterminal n from 0 to 7 there is the remainder of n and shift by 8.");
        for (int shift = 0; shift <= 7; shift++) {
            StringBuilder want = new StringBuilder();
            Grammarsmith x = new Grammarsmith();
            x.use(1);
            for (int n = 0; n <= 7; n++) {
                enter(x, name(n) + ":a" + name(7 - n) + "h");
                want.append(name((n + shift) % 8)).append(":a").append(name((7 - n + shift) % 8)).append("h ");
            }
            x.use(0);
            int by = shift;
            due("bring " + shift, x, o -> o.bring(by), 8);
            same("bring " + shift, rights(x), want.toString());
        }
        Grammarsmith helpers = other(new String[] {}, "H:(A|aG?)%h").make();
        helpers.bring(7);
        same("helpers have no other names", rights(helpers), "8: 8:F 9:H 9:a8 10:9 10:10h9 G:10 ");
    }

    private static void bringAll() {
        promise(8, "Brings all rules of the other grammar, in their order, as if they were entered here with other "
                + "names:");
        Grammarsmith x = other(new String[] {"A:(a)"}, "A:b?", "C:c", "A:(d)").make();
        x.bring(0);
        same("behind the rules that are there", rights(x), "8:a A:8 9: 9:b A:9 C:c 10:d A:10 ");
        due("undo of one rule", x, Grammarsmith::undo, 6);
        x.use(1);
        String own = "8: 8:b A:8 C:c 9:d A:9 ";
        same("the other grammar", rights(x), own);
        due("bring back", x, o -> o.bring(1), 3);
        same("brought back", rights(x), own + "10:a B:10 11: 11:b B:11 D:c ");
        Grammarsmith none = other(new String[] {"A:a"}).make();
        none.start(B);
        none.bring(3);
        same("no rules", rights(none), "A:a ");
        due("the start stays", none, o -> o.start(A), B);
        due("the text stays", none, Grammarsmith::wipe, 3);
    }

    private static void bringOf() {
        promise(8, "- `shift`: 0 to 7");
        within("bring", RICH, Grammarsmith::bring, 7, ARGUMENT);
    }

    private static void bringReturns() {
        promise(8, "Returns how many rules are brought.");
        due("none", other(new String[] {bars(22), "A:|"}).make(), o -> o.bring(0), 0);
        due("one of 23 productions", other(new String[] {}, bars(23)).make(), o -> o.bring(0), 1);
        Maker most = () -> {
            Grammarsmith x = typed("A:").make();
            for (int k = 0; k < 24; k++) {
                x.enter();
            }
            x.use(1);
            return x;
        };
        Grammarsmith x = most.make();
        due("24", x, o -> o.bring(7), 24);
        due("their productions", x, Grammarsmith::productions, 24);
        due("undo of the 24th", x, Grammarsmith::undo, 23);
    }

    private static void bringOutOfRange() {
        promise(8, "Throws `IllegalArgumentException` if shift is out of range");
        for (int shift : new int[] {-1, 8, 15, 16}) {
            refusedWithout("bring " + shift, RICH, o -> o.bring(shift), ARGUMENT);
            refusedWithout("bring into the grammar 1 " + shift, RICH_IN_OTHER, o -> o.bring(shift), ARGUMENT);
            refusedWithout("bring nothing " + shift, typed("A:a", "A:a"), o -> o.bring(shift), ARGUMENT);
        }
    }

    private static void bringNoRoom() {
        promise(8, "Throws `IllegalStateException` if one of them could not be entered; none is then");
        String[] twentyTwo = {bars(22)};
        due("24 productions", other(twentyTwo, "A:a", "B:b").make(), o -> o.bring(7), 2);
        refusedWithout("25 productions", other(twentyTwo, "A:a", "B:b", "C:c"), o -> o.bring(7), STATE);
        refusedWithout("25 productions by the last rule", other(twentyTwo, "A:a", "B:b|c"), o -> o.bring(7), STATE);
        refusedWithout("25 productions by a helper", other(new String[] {bars(21)}, "A:a", "B:(b|c)"),
                o -> o.bring(0), STATE);
        refusedWithout("a 25th into a full grammar", other(new String[] {bars(23), "A:"}, "A:"), o -> o.bring(0), STATE);
        String[] five = {"A:(((((a)))))"};
        due("eight helpers", other(five, "A:a?", "C:(a)b%c").make(), o -> o.bring(2), 2);
        refusedWithout("nine helpers", other(five, "A:a?", "C:(a)b%c", "C:d+"), o -> o.bring(2), STATE);
        refusedWithout("nine helpers by the first rule", other(five, "A:a?b?c?d?", "B:b"), o -> o.bring(0), STATE);
        Grammarsmith twice = other(new String[] {}, bars(12)).make();
        due("12 productions", twice, o -> o.bring(0), 1);
        due("12 productions again", twice, o -> o.bring(0), 1);
        refused("12 productions a third time", twice, o -> o.bring(0), STATE);
        due("undo behind it", twice, Grammarsmith::undo, 12);
    }

    // ---- start

    private static void startSets() {
        promise(9, "Sets the start.");
        Grammarsmith x = say(with("A:a", "B:b", "H:h"), "h");
        each("parse from A", x, Grammarsmith::parse, 0, 0, 0, 0);
        x.start(H);
        each("parse from H", x, Grammarsmith::parse, NONE, NONE, NONE, NONE);
        each("behind it", x, Grammarsmith::follow, 0, 0, 0, 0, 0, 0, 0, END);
        x.start(A);
        each("parse from A again", x, Grammarsmith::parse, 0, 0, 0, 0);
    }

    private static void startOf() {
        promise(9, "- `nonterminal`: 0 to 7");
        within("start", RICH, Grammarsmith::start, 7, INDEX);
    }

    private static void startReturns() {
        promise(9, "Returns the start before.");
        Grammarsmith x = new Grammarsmith();
        dues("start H H A", x, new Call[] {o -> o.start(H), o -> o.start(H), o -> o.start(A), o -> o.start(A)},
                A, H, H, A);
    }

    private static void startThrows() {
        promise(9, "Throws `IndexOutOfBoundsException` if there is no such nonterminal");
        for (int odd : new int[] {-1, 8, 15}) {
            refusedWithout("start " + odd, RICH, o -> o.start(odd), INDEX);
            refusedWithout("start of the grammar 1 " + odd, RICH_IN_OTHER, o -> o.start(odd), INDEX);
        }
    }

    // ---- level

    private static void levelSets() {
        promise(10, "Sets the level and the side of a terminal, 0 and LEFT at first.");
        Grammarsmith x = say(with("A:AhA|a"), "ahaha");
        int leaf = 2 + 1;
        int once = 1 + leaf + 16 + 3 * leaf;
        int left = 1 + once + 16 + 3 * leaf;
        int right = 1 + leaf + 16 + 3 * once;
        due("not settled at first", x, o -> o.settled(SIMPLE), 0);
        due("not settled at first", x, o -> o.value(SIMPLE), right);
        due("level 1, LEFT", x, o -> o.level(7, 1, LEFT), 0);
        due("LEFT", x, o -> o.value(SIMPLE), left);
        due("level 5, RIGHT", x, o -> o.level(7, 5, RIGHT), 1);
        due("RIGHT", x, o -> o.value(SIMPLE), right);
        due("level 5, NEITHER", x, o -> o.level(7, 5, NEITHER), 5);
        due("NEITHER", x, o -> o.parse(SIMPLE), 3);
        due("level 0, NEITHER", x, o -> o.level(7, 0, NEITHER), 5);
        due("level 0", x, o -> o.value(SIMPLE), right);
    }

    private static void levelOf() {
        promise(10, "- `terminal`: 0 to 7");
        within("terminal", RICH, (o, t) -> o.level(t, 5, NEITHER), 7, INDEX);
        promise(10, "- `level`: 0 to 5");
        within("level", RICH, (o, level) -> o.level(7, level, NEITHER), 5, ARGUMENT);
        promise(10, "- `side`: LEFT, RIGHT or NEITHER");
        within("side", RICH, (o, side) -> o.level(7, 5, side), 2, INDEX);
    }

    private static void levelReturns() {
        promise(10, "Returns the level before.");
        Grammarsmith x = new Grammarsmith();
        for (int t = 0; t <= 7; t++) {
            int terminal = t;
            for (int level = 0; level <= 5; level++) {
                int next = level;
                due("level of " + t, x, o -> o.level(terminal, next, RIGHT), Math.max(0, level - 1));
            }
        }
        each("levels", x, (o, t) -> o.level(t, 0, LEFT), 5, 5, 5, 5, 5, 5, 5, 5);
    }

    private static void levelNoTerminalOrSide() {
        promise(10, "Throws `IndexOutOfBoundsException` if there is no such terminal or side");
        for (int t : new int[] {-1, 8}) {
            refusedWithout("terminal " + t, RICH, o -> o.level(t, 0, LEFT), INDEX);
        }
        for (int t : new int[] {0, 1, 7}) {
            refusedWithout("side -1 of " + t, RICH, o -> o.level(t, 0, -1), INDEX);
            refusedWithout("side 3 of " + t, RICH, o -> o.level(t, 0, 3), INDEX);
        }
    }

    private static void levelOutOfRange() {
        promise(10, "Throws `IllegalArgumentException` if level is out of range");
        for (int t : new int[] {0, 1, 7}) {
            refusedWithout("level -1 of " + t, RICH, o -> o.level(t, -1, LEFT), ARGUMENT);
            refusedWithout("level 6 of " + t, RICH, o -> o.level(t, 6, NEITHER), ARGUMENT);
        }
    }

    // ---- productions, left, right

    private static void productions() {
        promise(11, "Returns how many productions the grammar has.");
        Grammarsmith x = typed("A:").make();
        for (int k = 0; k < 24; k++) {
            due("productions", x, Grammarsmith::productions, k);
            x.enter();
        }
        due("24 productions", x, Grammarsmith::productions, 24);
        refused("a 25th production", x, Grammarsmith::enter, STATE);
        due("24 productions still", x, Grammarsmith::productions, 24);
    }

    private static void left() {
        promise(12, "Returns the nonterminal on the left of a production.");
        Grammarsmith x = with("H:((((((((a))))))))", "A:||||||||||||||");
        each("left", x, Grammarsmith::left, 8, 9, 10, 11, 12, 13, 14, 15, H, A);
        due("the 24th", x, o -> o.left(23), A);
        promise(12, "- `production`: the number of a production");
        within("left", RICH, Grammarsmith::left, 5, INDEX);
        within("left of one production", typed("", "B:b"), Grammarsmith::left, 0, INDEX);
        within("left of 24 productions", typed("", bars(23), "B:b"), Grammarsmith::left, 23, INDEX);
    }

    private static void leftThrows() {
        promise(12, "Throws `IndexOutOfBoundsException` if there is no such production");
        refusedWithout("no productions", typed(""), o -> o.left(0), INDEX);
        Grammarsmith x = with("A:a", "B:b");
        x.undo();
        due("the last one", x, o -> o.left(0), A);
        refused("one that was taken away", x, o -> o.left(1), INDEX);
        refusedWithout("none of the grammar 1", RICH_IN_OTHER, o -> o.left(5), INDEX);
        refusedWithout("none of the grammar 0", RICH, o -> o.left(6), INDEX);
        due("the last one of the grammar 1", richInOther(), o -> o.left(4), A);
    }

    private static void right() {
        promise(13, "Returns a symbol on the right of a production.");
        Grammarsmith x = with("A:abcde", "B:hH(a)");
        each("the first right", x, (o, place) -> o.right(0, place), 0, 1, 2, 3, 4);
        each("the last right", x, (o, place) -> o.right(2, place), 7, 23, 24, NONE, NONE);
        promise(13, "- `production`: the number of a production");
        within("right", RICH, (o, production) -> o.right(production, 0), 5, INDEX);
        within("right of 24", typed("", bars(23), "B:b"), (o, production) -> o.right(production, 4), 23, INDEX);
        promise(13, "- `place`: 0 to 4");
        within("place", RICH, (o, place) -> o.right(0, place), 4, INDEX);
        within("place of an empty right", typed("", "A:"), (o, place) -> o.right(0, place), 4, INDEX);
        within("place of a full right", typed("", "A:abcde"), (o, place) -> o.right(0, place), 4, INDEX);
    }

    private static void rightReturns() {
        promise(13, "Returns the terminal; or the nonterminal and 16; NONE if there are not so many.");
        String[] rights = {"", "a", "ah", "ahA", "ahAH", "ahAH(b)"};
        long[] symbols = {0, 7, 16, 23, 24};
        for (int length = 0; length <= 5; length++) {
            Grammarsmith x = with("A:" + rights[length]);
            int production = length == 5 ? 1 : 0;
            for (int k = 0; k < 5; k++) {
                int place = k;
                due("symbol " + k + " of " + length, x, o -> o.right(production, place),
                        k < length ? symbols[k] : NONE);
            }
        }
        due("the last helper", with("A:((((((((a))))))))"), o -> o.right(8, 0), 31);
    }

    private static void rightThrows() {
        promise(13, "Throws `IndexOutOfBoundsException` if there is no such production or place");
        refusedWithout("no productions", typed(""), o -> o.right(0, 0), INDEX);
        refusedWithout("production 6", RICH, o -> o.right(6, 0), INDEX);
        refusedWithout("production -1", RICH, o -> o.right(-1, 0), INDEX);
        refusedWithout("place 5", RICH, o -> o.right(5, 5), INDEX);
        refusedWithout("place -1", RICH, o -> o.right(5, -1), INDEX);
        refusedWithout("neither", RICH, o -> o.right(6, 5), INDEX);
    }
}
