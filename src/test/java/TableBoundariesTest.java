/**
 * The boundaries of tables and their conflicts: each sentence of the document by its name, with the last value
 * inside and the first one outside.
 */
public final class TableBoundariesTest extends Checks {
    private static final Maker RICH = Checks::rich;
    private static final Maker RICH_IN_OTHER = Checks::richInOther;
    private static final Ask SIZE = Grammarsmith::size;
    private static final Ask CONFLICTS = Grammarsmith::conflicts;
    private static final Ask SETTLED = Grammarsmith::settled;

    public static void main(String[] args) {
        constants();
        fourKinds();
        predictiveCells();
        statesOfItems();
        oneMoreProduction();
        whatIsBehindItems();
        statesWithWhatIsBehind();
        firstState();
        itemsInFrontOfNonterminals();
        overEachSymbol();
        mergedAsIfWholeHadAnyNumber();
        actions();
        severalActions();
        settledLevels();
        settledSides();
        sidesOfEachTerminal();
        notSettledOrder();
        predictiveConflicts();
        moreThan80States();
        waysOfTheLastStates();
        sizes();
        conflictCounts();
        settledCounts();
        chosen();
        wholly("The constants", "Tables", "Promise 21", "Promise 22", "Promise 23", "Promise 24");
        finish();
    }

    private static void constants() {
        says("The constants", "The constants: `NONE = -1`: None.", 4, 13, 19, 24, 27, 30);
        same("NONE", Grammarsmith.NONE + "", "-1");
        says("The constants", "`TOO_LARGE = -2, STUCK = -3`: A table that is too large; a parser that is stuck.",
                21, 22, 23, 27);
        same("TOO_LARGE, STUCK", Grammarsmith.TOO_LARGE + "," + Grammarsmith.STUCK, "-2,-3");
        says("The constants", "`PREDICTIVE = 0, SIMPLE = 1, MERGED = 2, WHOLE = 3`: Kinds of tables.", 21);
        same("kinds", Grammarsmith.PREDICTIVE + "," + Grammarsmith.SIMPLE + "," + Grammarsmith.MERGED + ","
                + Grammarsmith.WHOLE, "0,1,2,3");
        says("The constants", "`LEFT = 0, RIGHT = 1, NEITHER = 2`: Sides of terminals.", 10);
        same("sides", Grammarsmith.LEFT + "," + Grammarsmith.RIGHT + "," + Grammarsmith.NEITHER, "0,1,2");
    }

    // ---- terms: cells of PREDICTIVE, and states

    private static void fourKinds() {
        says("Tables", "There are four kinds.", 21, 22, 23, 27, 28);
        within("size", RICH, SIZE, 3, INDEX);
        each("sizes that differ by kinds", with("A:aBa|bBb", "B:a|b", "C:a"), SIZE, 5, 10, 10, 12);
    }

    private static void predictiveCells() {
        says("Tables", "PREDICTIVE has a cell for each nonterminal and each terminal or the end; a production of the "
                + "nonterminal is in it if the terminal is among the firsts of its right, or its right is nullable, "
                + "and the terminal, or the end, is behind the nonterminal.", 21);
        due("no cells", new Grammarsmith(), o -> o.size(PREDICTIVE), 0);
        due("one cell, for a", with("A:a"), o -> o.size(PREDICTIVE), 1);
        due("one cell, for h", with("A:h"), o -> o.size(PREDICTIVE), 1);
        due("one cell, for the end", with("A:"), o -> o.size(PREDICTIVE), 1);
        due("eight cells", with("A:a|b|c|d|e|f|g|h"), o -> o.size(PREDICTIVE), 8);
        due("nine cells", with("A:a|b|c|d|e|f|g|h|"), o -> o.size(PREDICTIVE), 9);
        due("nine of what is behind", with("A:BC|B", "B:", "C:a|b|c|d|e|f|g|h"), o -> o.size(PREDICTIVE), 9 + 9 + 8);
        due("cells of A and of H", with("A:H", "H:h"), o -> o.size(PREDICTIVE), 2);
        due("cells of all nonterminals", with("A:B", "B:C", "C:D", "D:E", "E:F", "F:G", "G:H",
                "H:((((((((a|))))))))"), o -> o.size(PREDICTIVE), 16 * 2);
        due("nothing is behind it", with("A:a", "B:|b"), o -> o.size(PREDICTIVE), 2);
        due("behind it, but it is not nullable", with("A:Bb", "B:a"), o -> o.size(PREDICTIVE), 2);
        due("behind it, and it is nullable", with("A:Bb", "B:a|"), o -> o.size(PREDICTIVE), 4);
        due("not by the fifth symbol", with("A:BBBBC", "B:", "C:c"), o -> o.size(PREDICTIVE), 3);
        due("by all five symbols", with("A:BBBBC", "B:", "C:c|"), o -> o.size(PREDICTIVE), 2 + 2 + 2);
        due("two productions in one cell", with("A:a|a"), o -> o.size(PREDICTIVE), 1);
    }

    private static void statesOfItems() {
        says("Tables", "The others have states.", 21);
        each("one terminal", with("A:a"), SIZE, 1, 3, 3, 3);
        each("five terminals", with("A:abcde"), SIZE, 1, 7, 7, 7);
        each("two rows that begin alike", with("A:abcde|abcda"), SIZE, 1, 8, 8, 8);
        each("two rows that end alike", with("A:abcde|bbcde"), SIZE, 2, 12, 12, 12);
    }

    private static void oneMoreProduction() {
        says("Tables", "An item is a production with a place in its right; one more production has the start alone on "
                + "its right.", 21, 27);
        each("no productions", new Grammarsmith(), SIZE, 0, 2, 2, 2);
        Grammarsmith h = new Grammarsmith();
        h.start(H);
        each("no productions of H", h, SIZE, 0, 2, 2, 2);
        each("places from 0 to 0", with("A:"), SIZE, 1, 2, 2, 2);
        each("places from 0 to 5", with("A:aaaaa"), SIZE, 1, 7, 7, 7);
        each("24 productions", say(crowded(), "f"), Grammarsmith::parse, NONE, NONE, NONE, NONE);
        Grammarsmith last = say(with(bars(23), "B:bAAAA"), "b");
        last.start(B);
        each("places of the production 23", last, SIZE, 2, 7, 7, 7);
        each("places of the production 23", last, CONFLICTS, 1, 4, 4, 4);
        each("the production 23", last, Grammarsmith::value, 24 + 2 + 14, 40, 40, 40);
        each("a state over each of 16 nonterminals", with("A:BCDEF|GHa", "A:((((((((a))))))))"), SIZE,
                9, 19, 19, 19);
    }

    private static void whatIsBehindItems() {
        says("Tables", "Each item has some terminals or the end behind it.", 22, 27);
        each("the end behind it", with("A:B|C", "B:a", "C:a"), CONFLICTS, 1, 1, 1, 1);
        each("a behind it, and h", with("A:Ba|Ch", "B:a", "C:a"), CONFLICTS, 1, 0, 0, 0);
        each("h behind it", with("A:Bh|Ch", "B:a", "C:a"), CONFLICTS, 1, 1, 1, 1);
        each("h behind it, and the end", with("A:Bh|C", "B:a", "C:a"), CONFLICTS, 1, 0, 0, 0);
        each("nothing is behind it", with("A:BDa|CDa", "B:a", "C:a"), SIZE, 3, 9, 9, 9);
        each("nothing is behind it", with("A:BDa|CDa", "B:a", "C:a"), CONFLICTS, 1, 0, 0, 0);
    }

    private static void statesWithWhatIsBehind() {
        says("Tables", "SIMPLE and MERGED have a state for each set of items, WHOLE for each set of items with what is "
                + "behind them, that is come to, as follows.", 21);
        each("other ends", with(TWINS), SIZE, 4, 13, 13, 14);
        each("one end", with("A:cBa|dBa|cCb|dCb", "B:e", "C:e"), SIZE, 4, 13, 13, 13);
        each("one end and other items", with("A:cBa|dBa|cCb", "B:e", "C:e"), SIZE, 4, 12, 12, 12);
        each("not come to", with("A:a", "B:aBb|c", "C:B"), SIZE, 5, 3, 3, 3);
    }

    private static void firstState() {
        says("Tables", "The first state begins with the item of the one more production, at the place 0, with the end "
                + "behind it.", 21, 22, 27);
        each("accepted at the end", with("A:"), Grammarsmith::parse, NONE, NONE, NONE, NONE);
        each("not at a terminal", say(with("A:"), "a"), Grammarsmith::parse, 0, 0, 0, 0);
        each("the end behind the start, and not a", with("A:Aa|B|C", "B:b", "C:b"), CONFLICTS, 1, 2, 2, 2);
        each("the end alone", with("A:B|C", "B:b", "C:b"), CONFLICTS, 1, 1, 1, 1);
    }

    private static void itemsInFrontOfNonterminals() {
        says("Tables", "If a state has an item in front of a nonterminal, it has an item of each production of that, "
                + "at the place 0, behind which are the firsts of what follows the nonterminal in the item, and, if "
                + "that is nullable, what is behind the item.", 21, 22);
        each("what follows is nullable", with("A:Ea|Ca", "E:BD", "B:b", "C:b", "D:d|"), CONFLICTS, 1, 1, 1, 1);
        each("what follows is not nullable", with("A:Ea|Ca", "E:BD", "B:b", "C:b", "D:d"), CONFLICTS, 1, 0, 0, 0);
        each("four nullable ones follow", with("A:Ea|Ca", "E:BDFGH", "B:b", "C:b", "D:d|", "F:f|", "G:g|", "H:h|"),
                CONFLICTS, 1, 1, 1, 1);
        each("the fourth is not nullable", with("A:Ea|Ca", "E:BFFFD", "B:b", "C:b", "D:d", "F:"), CONFLICTS,
                1, 0, 0, 0);
        each("the firsts of the fourth", with("A:Ea|Cd", "E:BFFFD", "B:b", "C:b", "D:d|", "F:"), CONFLICTS,
                1, 1, 1, 1);
        each("nothing follows", with("A:Ea|Ca", "E:dB|dC", "B:b", "C:b"), CONFLICTS, 1, 1, 1, 1);
        each("each production", with("A:B", "B:a|b|c|d|e|f|g|h"), SIZE, 16, 11, 11, 11);
        each("nonterminals in front of each other", with("A:B", "B:C", "C:D", "D:A|a"), SIZE, 4, 6, 6, 6);
    }

    private static void overEachSymbol() {
        says("Tables", "From a state, over each symbol in front of which it has items, one comes to a state that begins "
                + "with these items, one place further, with what is behind them as it was.", 21, 27);
        each("over terminals a and h", with("A:a|h"), SIZE, 2, 4, 4, 4);
        each("over the last helper", with("A:((((((((a))))))))"), SIZE, 9, 11, 11, 11);
        each("over one symbol for two items", with("A:Ba|Bh", "B:b"), SIZE, 2, 6, 6, 6);
        each("a state that was there", with("A:aA|b"), SIZE, 2, 5, 5, 5);
        each("as it was", say(with("A:aBa|bBb", "B:c"), "aca"), Grammarsmith::parse, NONE, NONE, NONE, NONE);
        each("as it was", say(with("A:aBa|bBb", "B:c"), "acb"), Grammarsmith::parse, 2, 2, 2, 2);
        each("as it was", with("A:aBa|bBb", "B:c"), SIZE, 3, 9, 9, 10);
    }

    /** Around POINTERS or TWINS: so many letters, each with 18 states of WHOLE. */
    private static Grammarsmith amid(String[] rules, String frames) {
        Grammarsmith x = with(rules);
        enter(x, "A:" + frames, "D:abcab|bcabc|cabca");
        return x;
    }

    private static void mergedAsIfWholeHadAnyNumber() {
        says("Tables", "(States of MERGED have behind each item all that is behind it in the states of WHOLE with the "
                + "same items, as if WHOLE could have any number of states.)", 21, 22, 24, 27);
        Grammarsmith pointers = amid(POINTERS, "dDd|eDe|fDf|gDg|hDh");
        each("less than behind its left", pointers, SIZE, 2 + 5 + 2 + 2 + 3, 40, 40, TOO_LARGE);
        each("less than behind its left", pointers, CONFLICTS, 2, 1, 0, TOO_LARGE);
        due("less than behind its left", pointers, Grammarsmith::chosen, MERGED);
        each("accepted", say(pointers, "dabcabd"), Grammarsmith::parse, NONE, NONE, NONE, TOO_LARGE);
        each("not accepted", say(pointers, "dabcabe"), Grammarsmith::parse, 6, 6, 6, TOO_LARGE);
        Grammarsmith twins = amid(TWINS, "aDa|bDb|eDe|fDf|gDg");
        each("all that is behind it in two states", twins, SIZE, 2 + 5 + 1 + 1 + 3, 43, 43, TOO_LARGE);
        each("all that is behind it in two states", twins, CONFLICTS, 2, 2, 2, TOO_LARGE);
        due("all that is behind it in two states", twins, Grammarsmith::chosen, NONE);
        each("the lowest goes for all", say(twins, "dea"), Grammarsmith::parse, 2, 2, 2, TOO_LARGE);
        String[] later = {"A:cBa|cCb|dddBb|dddCa", "B:efgh", "C:efgh"};
        each("what comes later, further on", with(later), CONFLICTS, 2, 2, 2, 0);
        each("what comes later, round and round", with("A:cBa|cCb|dddBb|dddCa", "B:eBh|f", "C:eCh|f"), CONFLICTS,
                2, 3, 3, 1);
        each("in the state of one alone", with("A:aBa|bBb|aCb", "B:c", "C:c"), CONFLICTS, 1, 1, 0, 0);
        each("in the states of both", with("A:aBa|bBb|aCb|bCa", "B:c", "C:c"), CONFLICTS, 2, 2, 2, 0);
    }

    // ---- terms: actions and conflicts

    private static void actions() {
        says("Tables", "A cell is a state and a terminal or the end; its actions are: to shift, if the state has an item "
                + "in front of the terminal; to reduce by a production, for each item at the end of its right, behind "
                + "which the terminal or the end is (for SIMPLE: if this is behind the left of the production, as "
                + "found above); to accept, in the place of reducing by the one more production.", 22, 27);
        each("to shift twice is one action", with("A:ab|ac"), CONFLICTS, 1, 0, 0, 0);
        each("to shift and to reduce", with("A:Bab|ac", "B:"), CONFLICTS, 1, 1, 1, 1);
        each("to reduce twice", with("A:B|C", "B:", "C:"), CONFLICTS, 1, 1, 1, 1);
        each("to accept and to reduce", with("A:A|"), CONFLICTS, 1, 1, 1, 1);
        each("behind the left elsewhere", with("A:Bb|aBc|ac", "B:"), CONFLICTS, 1, 1, 1, 1);
        each("behind the left elsewhere, and not here", with("A:Bb|aBc|ab", "B:"), CONFLICTS, 1, 1, 0, 0);
        Grammarsmith nine = with("D:AE", "E:a|b|c|d|e|f|g|h|", "A:B|C", "B:", "C:");
        nine.start(D);
        each("in all cells of a state", nine, CONFLICTS, 9, 9, 9, 9);
        each("in all cells of a state", nine, SIZE, 45, 14, 14, 14);
    }

    private static void severalActions() {
        says("Tables", "A cell with several actions is a conflict.", 22);
        each("one action", with("A:a|b"), CONFLICTS, 0, 0, 0, 0);
        each("two actions", with("A:a|a"), CONFLICTS, 1, 1, 1, 1);
        each("three actions", with("A:a|a|a"), CONFLICTS, 1, 1, 1, 1);
        each("24 actions", with("A:" + "|".repeat(21), "A:|"), CONFLICTS, 1, 1, 1, 1);
        each("two actions in each of nine cells", with("A:B|C", "B:a|b|c|d|e|f|g|h|", "C:a|b|c|d|e|f|g|h|"), CONFLICTS,
                9, 9, 9, 9);
    }

    /** Both operators between c, b behind a first. */
    private static Grammarsmith sums() {
        return say(with("A:AaA|AbA|c"), "cacbc");
    }

    private static void settledLevels() {
        says("Tables", "It is settled if it has just two, to shift and to reduce by a production, the terminal has a "
                + "level above 0, and so has the last terminal on the right of the production: if the level of the "
                + "production's terminal is higher, it is reduced; if it is lower, it is shifted;", 10, 23, 27, 28);
        int reduced = 51;
        int shifted = 99;
        Grammarsmith x = sums();
        for (int a = 0; a <= 5; a++) {
            for (int b = 0; b <= 5; b++) {
                x.level(0, a, LEFT);
                x.level(1, b, RIGHT);
                int settled = a > 0 && b > 0 ? 4 : a > 0 || b > 0 ? 1 : 0;
                int value = settled == 4 && a > b ? reduced : shifted;
                due("settled by " + a + " and " + b, x, o -> o.settled(MERGED), settled);
                due("value by " + a + " and " + b, x, o -> o.value(SIMPLE), value);
            }
        }
        for (int kind = SIMPLE; kind <= WHOLE; kind++) {
            settledByActions(kind);
        }
    }

    private static void settledByActions(int kind) {
        Call count = o -> o.settled(kind);
        due("to shift and to reduce", levelled("A:AaA|c"), count, 1);
        due("three, with two to reduce", levelled("A:AaA|AaA|c"), count, 0);
        due("two to reduce", levelled("A:Ba|Ca", "B:b", "C:b"), count, 0);
        due("to accept and to reduce", levelled("A:A|a"), count, 0);
        due("no terminal on the right", levelled("A:Bab|ac", "B:"), count, 0);
        due("no terminal among symbols", levelled("A:AA|a"), count, 0);
        due("a terminal at the place 0", levelled("A:aA|Aa|b"), count, 1);
        due("a terminal at the place 4", levelled("A:AAAAa|Ab|bbbba|b"), levels -> bit(levels.settled(kind) > 0), 1);
        Grammarsmith last = with("A:AhAaA|c");
        last.level(7, 5, LEFT);
        due("the first terminal of two", last, count, 0);
        last.level(0, 1, LEFT);
        last.level(7, 0, LEFT);
        due("the last terminal of two, not that of the cell", last, count, 0);
        last.level(7, 1, LEFT);
        due("both", last, o -> bit(o.settled(kind) > 0), 1);
    }

    private static void settledSides() {
        says("Tables", "if both are the same, the side of the terminal of the cell decides: LEFT reduces, RIGHT shifts, "
                + "NEITHER leaves no action.", 10, 27, 28);
        for (int level = 1; level <= 5; level++) {
            Grammarsmith x = sums();
            for (int ofA = LEFT; ofA <= NEITHER; ofA++) {
                x.level(0, level, ofA);
                x.level(1, level, LEFT);
                each("LEFT", x, (o, k) -> o.value(k + 1), 51, 51, 51);
                x.level(1, level, RIGHT);
                each("RIGHT", x, (o, k) -> o.value(k + 1), 99, 99, 99);
                x.level(1, level, NEITHER);
                each("NEITHER", x, (o, k) -> o.parse(k + 1), 3, 3, 3);
                each("settled", x, SETTLED, 0, 4, 4, 4);
            }
        }
    }

    /** Each terminal conflicts with itself alone. */
    private static void sidesOfEachTerminal() {
        says("Tables", "the side of the terminal of the cell decides: LEFT reduces, RIGHT shifts, NEITHER leaves no "
                + "action.", 10, 23, 28);
        Grammarsmith x = with("A:AaA|AbA|AcA|AdA", "A:AeA|AfA|AgA|AhA|");
        for (int t = 0; t <= 7; t++) {
            int terminal = t;
            String letter = Character.toString((char) ('a' + t));
            say(x, letter + letter);
            int leaf = 9;
            int once = t + 1 + leaf + 2 * (t + 1) + 3 * leaf;
            int left = t + 1 + once + 2 * (t + 1) + 3 * leaf;
            int right = t + 1 + leaf + 2 * (t + 1) + 3 * once;
            due("without a level", x, o -> o.value(SIMPLE), right);
            x.level(t, 1, LEFT);
            due("LEFT of " + letter, x, o -> o.value(SIMPLE), left);
            x.level(t, 1, RIGHT);
            due("RIGHT of " + letter, x, o -> o.value(SIMPLE), right);
            x.level(t, 1, NEITHER);
            due("NEITHER of " + letter, x, o -> o.parse(SIMPLE), 1);
            due("settled by " + letter, x, o -> o.settled(SIMPLE), 1);
            due("the level of " + letter, x, o -> o.level(terminal, 0, LEFT), 1);
        }
    }

    private static void notSettledOrder() {
        says("Tables", "In a conflict that is not settled, accepting goes first, then shifting, then the lowest "
                + "production.", 27, 28);
        each("accepting ahead of the lowest", say(with("A:A|a"), "a"), (o, k) -> o.value(k + 1), 3, 3, 3);
        each("accepting ahead of two", say(with("A:A|A|a"), "a"), (o, k) -> o.value(k + 1), 4, 4, 4);
        each("shifting ahead of the lowest", say(with("B:", "A:Bab|ab"), "ab"), (o, k) -> o.value(k + 1), 8, 8, 8);
        each("shifting ahead of two", say(with("B:", "C:", "A:Bab|Cab|ab"), "ab"), (o, k) -> o.value(k + 1), 10, 10, 10);
        each("the lowest of two", say(with("A:B|C", "B:a", "C:a"), "a"), (o, k) -> o.value(k + 1), 5, 5, 5);
        each("the lowest of two", say(with("A:C|B", "B:a", "C:a"), "a"), (o, k) -> o.value(k + 1), 6, 6, 6);
        each("the lowest of 24", with("A:" + "|".repeat(21), "A:|"), (o, k) -> o.value(k + 1), 1, 1, 1);
        each("the lowest of two at the end", with(bars(22), "B:|"), (o, k) -> {
            o.start(B);
            return o.value(k + 1);
        }, 23, 23, 23);
    }

    private static void predictiveConflicts() {
        says("Tables", "In PREDICTIVE a cell with several productions is a conflict, none is settled, and the lowest "
                + "production goes.", 22, 23, 27, 28);
        Call count = o -> o.conflicts(PREDICTIVE);
        due("one production", levelled("A:a|b"), count, 0);
        due("two productions", levelled("A:a|aa"), count, 1);
        due("three productions", levelled("A:a|aa|aaa"), count, 1);
        due("two in each of nine cells", levelled("A:B|C", "B:a|b|c|d|e|f|g|h|", "C:a|b|c|d|e|f|g|h|"), count, 9);
        due("none is settled", levelled("A:AaA|AbA|c"), o -> o.settled(PREDICTIVE), 0);
        due("none is settled", levelled("A:a|aa"), o -> o.settled(PREDICTIVE), 0);
        due("the lowest", say(levelled("A:a|aB", "B:"), "a"), o -> o.value(PREDICTIVE), 2);
        due("the lowest", say(levelled("A:aB|a", "B:"), "a"), o -> o.value(PREDICTIVE), 1 + 1 + 2 * 3);
        due("the last two of 24", with(bars(22), "B:|"), o -> {
            o.start(B);
            return o.value(PREDICTIVE);
        }, 23);
    }

    // ---- terms: 80 states

    /** With 80 states of WHOLE, and 35 of SIMPLE and MERGED; each letter more has one more. */
    private static Grammarsmith broadInWhole() {
        Grammarsmith x = frames("aBa|bBb|cBc|dBd");
        enter(x, "A:effff|f");
        return x;
    }

    /** The last states that one comes to lie far from the first one; two ways lead there, and some lead back. */
    private static Grammarsmith deep() {
        return with("A:hhhhB", "B:hhhhC|hhhgC|hhhgG", "C:eD|eE", "G:e", "D:HD|b", "E:H", "H:a", "A:ccccD",
                "A:aaaaa|bbbbb|ddddd", "A:eeeee|fffff|ggggg", "A:acccc|bcccc|dcccc", "A:ecccc|fcccc");
    }

    private static void deeply(String what, Grammarsmith x, long... wantsOrTooLarge) {
        each(what + " over h", say(x, "hhhhhhhheaab"), (o, k) -> o.parse(k + 1), wantsOrTooLarge);
        each(what + " over h", x, (o, k) -> o.value(k + 1), 896, 896);
        each(what + " over g", say(x, "hhhhhhhgeaab"), (o, k) -> o.parse(k + 1), wantsOrTooLarge);
        each(what + " over g", x, (o, k) -> o.value(k + 1), 881, 881);
    }

    private static void waysOfTheLastStates() {
        says("Tables", "A table with more than 80 states is TOO_LARGE.", 21, 27, 28);
        Grammarsmith x = deep();
        each("80 states of WHOLE", x, (o, k) -> o.size(k + 1), 79, 79, 80);
        each("80 states of WHOLE", x, (o, k) -> o.conflicts(k + 1), 0, 0, 0);
        deeply("80 states of WHOLE", x, NONE, NONE, NONE);
        due("80 states of WHOLE", x, o -> o.value(WHOLE), 881);
        enter(x, "A:gb");
        each("81 states of WHOLE", x, (o, k) -> o.size(k + 1), 80, 80, TOO_LARGE);
        each("81 states of WHOLE", x, (o, k) -> o.conflicts(k + 1), 0, 0, TOO_LARGE);
        deeply("81 states of WHOLE", x, NONE, NONE, TOO_LARGE);
        x.undo();
        enter(x, "A:gcc");
        each("81 states", x, (o, k) -> o.size(k + 1), TOO_LARGE, TOO_LARGE, TOO_LARGE);
    }

    private static void moreThan80States() {
        says("Tables", "A table with more than 80 states is TOO_LARGE.", 21, 22, 23, 24, 27, 28);
        Grammarsmith x = say(broad(), "fcaaa");
        each("80 states", x, SIZE, 6, 80, 80, 80);
        each("80 states", x, CONFLICTS, 6, 0, 0, 0);
        each("80 states", x, SETTLED, 0, 0, 0, 0);
        each("80 states", x, Grammarsmith::parse, 1, NONE, NONE, NONE);
        each("80 states", x, (o, k) -> o.value(k + 1), 42, 42, 42);
        enter(x, "A:g");
        each("81 states", x, SIZE, 7, TOO_LARGE, TOO_LARGE, TOO_LARGE);
        each("81 states", x, CONFLICTS, 6, TOO_LARGE, TOO_LARGE, TOO_LARGE);
        each("81 states", x, SETTLED, 0, TOO_LARGE, TOO_LARGE, TOO_LARGE);
        each("81 states", x, Grammarsmith::parse, 1, TOO_LARGE, TOO_LARGE, TOO_LARGE);
        for (int k = SIMPLE; k <= WHOLE; k++) {
            int kind = k;
            refused("81 states", x, o -> o.value(kind), STATE);
        }
        Grammarsmith whole = say(broadInWhole(), "afghfga");
        each("80 states of WHOLE", whole, SIZE, 9, 35, 35, 80);
        each("80 states of WHOLE", whole, CONFLICTS, 0, 0, 0, 0);
        each("80 states of WHOLE", whole, Grammarsmith::parse, NONE, NONE, NONE, NONE);
        enter(whole, "A:g");
        each("81 states of WHOLE", whole, SIZE, 10, 36, 36, TOO_LARGE);
        each("81 states of WHOLE", whole, CONFLICTS, 0, 0, 0, TOO_LARGE);
        each("81 states of WHOLE", whole, SETTLED, 0, 0, 0, TOO_LARGE);
        each("81 states of WHOLE", whole, Grammarsmith::parse, NONE, NONE, NONE, TOO_LARGE);
        refused("81 states of WHOLE", whole, o -> o.value(WHOLE), STATE);
        whole.undo();
        each("80 states of WHOLE again", whole, SIZE, 9, 35, 35, 80);
    }

    // ---- promises 21 to 24

    private static void takesKinds(int number, Ask ask) {
        promise(number, "- `kind`: PREDICTIVE to WHOLE");
        within("kind", RICH, ask, 3, INDEX);
        promise(number, "Throws `IndexOutOfBoundsException` if there is no such kind");
        for (int odd : new int[] {-1, 4}) {
            refusedWithout("kind " + odd, RICH, o -> ask.of(o, odd), INDEX);
            refusedWithout("kind in the grammar 1 " + odd, RICH_IN_OTHER, o -> ask.of(o, odd), INDEX);
            refusedWithout("kind where tables are too large " + odd, TableBoundariesTest::tooBroad,
                    o -> ask.of(o, odd), INDEX);
        }
    }

    private static Grammarsmith tooBroad() {
        Grammarsmith x = broad();
        enter(x, "A:g");
        return x;
    }

    private static void sizes() {
        takesKinds(21, SIZE);
        promise(21, "Returns the size of a table: how many cells have a production, for PREDICTIVE; how many states "
                + "there are, for the others.");
        each("the smallest", new Grammarsmith(), SIZE, 0, 2, 2, 2);
        each("one cell", with("A:"), SIZE, 1, 2, 2, 2);
        each("cells, not productions", with("A:a|a|b"), SIZE, 2, 4, 4, 4);
        promise(21, "Returns the size; TOO_LARGE.");
        each("the largest", broad(), SIZE, 6, 80, 80, 80);
        each("larger than that", tooBroad(), SIZE, 7, TOO_LARGE, TOO_LARGE, TOO_LARGE);
        Grammarsmith far = broad();
        enter(far, "A:gaaaa|gbaaa|gcaaa", "A:haaaa|hbaaa|hcaaa");
        each("106 states", far, SIZE, 8, TOO_LARGE, TOO_LARGE, TOO_LARGE);
    }

    private static void conflictCounts() {
        takesKinds(22, CONFLICTS);
        promise(22, "Returns how many conflicts a table has, settled or not.");
        Grammarsmith x = sums();
        each("not settled", x, CONFLICTS, 1, 4, 4, 4);
        x.level(0, 1, LEFT);
        each("one settled", x, CONFLICTS, 1, 4, 4, 4);
        x.level(1, 1, NEITHER);
        each("all settled", x, CONFLICTS, 1, 4, 4, 4);
        promise(22, "Returns how many; TOO_LARGE.");
        each("none", with("A:a"), CONFLICTS, 0, 0, 0, 0);
        each("one", with("A:a|a"), CONFLICTS, 1, 1, 1, 1);
        each("too large", tooBroad(), CONFLICTS, 6, TOO_LARGE, TOO_LARGE, TOO_LARGE);
        Grammarsmith clashing = broad();
        enter(clashing, "A:aaaaa");
        each("one in 80 states", clashing, CONFLICTS, 6, 1, 1, 1);
    }

    private static void settledCounts() {
        takesKinds(23, SETTLED);
        promise(23, "Returns how many conflicts of a table are settled.");
        Grammarsmith x = sums();
        each("none", x, SETTLED, 0, 0, 0, 0);
        x.level(0, 1, LEFT);
        each("one of four", x, SETTLED, 0, 1, 1, 1);
        x.level(1, 1, NEITHER);
        each("four of four", x, SETTLED, 0, 4, 4, 4);
        promise(23, "Returns how many; TOO_LARGE.");
        each("none of none", levelled("A:a"), SETTLED, 0, 0, 0, 0);
        each("too large", tooBroad(), SETTLED, 0, TOO_LARGE, TOO_LARGE, TOO_LARGE);
    }

    private static void chosen() {
        promise(24, "Returns the first kind whose table is not too large, and has no conflicts but settled ones; NONE if "
                + "there is none.");
        due("PREDICTIVE", with("A:aA|b"), Grammarsmith::chosen, PREDICTIVE);
        due("SIMPLE, as PREDICTIVE has a conflict", with("A:Aa|b"), Grammarsmith::chosen, SIMPLE);
        due("MERGED, as SIMPLE has a conflict", with(POINTERS), Grammarsmith::chosen, MERGED);
        due("WHOLE, as MERGED has conflicts", with(TWINS), Grammarsmith::chosen, WHOLE);
        due("NONE, as WHOLE has a conflict", with("A:a|a"), Grammarsmith::chosen, NONE);
        Grammarsmith predictive = with("A:aBaaa|bBaaa|cBaaa", "A:dBaaa|eBaaa|fBaaa", "A:gBaaa|hBaaa",
                "B:aaaaa|baaaa|caaaa", "B:daaaa|eaaaa|faaaa", "B:gaaaa|haaaa");
        each("82 states", predictive, SIZE, 16, TOO_LARGE, TOO_LARGE, TOO_LARGE);
        due("PREDICTIVE where all others are too large", predictive, Grammarsmith::chosen, PREDICTIVE);
        due("SIMPLE with 80 states", broad(), Grammarsmith::chosen, SIMPLE);
        due("NONE with 81 states", tooBroad(), Grammarsmith::chosen, NONE);
        Grammarsmith whole = with(TWINS);
        enter(whole, "A:aDa|bDb|eDe", "D:abcde|bcdea|cdeab", "A:fffff|gffff|hf");
        due("80 states of WHOLE", whole, o -> o.size(WHOLE), 80);
        due("WHOLE with 80 states", whole, Grammarsmith::chosen, WHOLE);
        enter(whole, "A:hg");
        due("NONE with 81 states of WHOLE", whole, Grammarsmith::chosen, NONE);
        Grammarsmith x = sums();
        x.level(0, 1, LEFT);
        due("NONE, one of four is settled", x, Grammarsmith::chosen, NONE);
        x.level(1, 1, NEITHER);
        due("SIMPLE, all four are settled", x, Grammarsmith::chosen, SIMPLE);
        x.level(1, 0, NEITHER);
        due("NONE again", x, Grammarsmith::chosen, NONE);
    }
}
