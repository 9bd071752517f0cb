/**
 * The boundaries of what is found of a grammar: each sentence of the document by its name, with the last value
 * inside and the first one outside.
 */
public final class FoundBoundariesTest extends Checks {
    private static final Maker RICH = Checks::rich;
    private static final Maker RICH_IN_OTHER = Checks::richInOther;
    private static final String[] TOP_DOWN = {"A:B", "B:C", "C:D", "D:E", "E:F", "F:G", "G:H"};
    private static final String[] BOTTOM_UP = {"G:H", "F:G", "E:F", "D:E", "C:D", "B:C", "A:B"};

    private static final Ask NULLABLE = (x, n) -> bit(x.isNullable(n));
    private static final Ask LEFT_RECURSIVE = (x, n) -> bit(x.isLeftRecursive(n));

    public static void main(String[] args) {
        withoutProductions();
        nullable();
        firsts();
        behind();
        behindBySymbols();
        productive();
        reached();
        leftRecursive();
        shortestRow();
        production23();
        promises14To18();
        shortest();
        sentence();
        sentenceThrows();
        wholly("What is found", "Promise 14", "Promise 15", "Promise 16", "Promise 17", "Promise 18", "Promise 19",
                "Promise 20");
        finish();
    }

    // ---- grammars of all sixteen nonterminals, each of which derives the next one: A to H, then 15 to 8

    /** The last of them, the helper 8, derives a row; rules go from A on, or come to A at last. */
    private static Grammarsmith chain(boolean fromA, String row) {
        String last = "H:((((((((" + row + "))))))))";
        Grammarsmith x = new Grammarsmith();
        if (!fromA) {
            enter(x, last);
        }
        enter(x, fromA ? TOP_DOWN : BOTTOM_UP);
        if (fromA) {
            enter(x, last);
        }
        return x;
    }

    private static void alongChains(String what, String row, Ask ask, long want) {
        long[] wants = new long[16];
        java.util.Arrays.fill(wants, want);
        each(what + " from A", chain(true, row), ask, wants);
        each(what + " to A", chain(false, row), ask, wants);
    }

    private static void withoutProductions() {
        says("Ahead of the calls", "what is found; all of these for nonterminals without productions, too.",
                14, 15, 16, 17, 18, 19, 20);
        Grammarsmith x = new Grammarsmith();
        each("isNullable", x, NULLABLE, 0, 0, 0, 0, 0, 0, 0, 0, 0, 0, 0, 0, 0, 0, 0, 0);
        each("first", x, Grammarsmith::first, 0, 0, 0, 0, 0, 0, 0, 0, 0, 0, 0, 0, 0, 0, 0, 0);
        each("follow", x, Grammarsmith::follow, END, 0, 0, 0, 0, 0, 0, 0, 0, 0, 0, 0, 0, 0, 0, 0);
        each("uses", x, Grammarsmith::uses, 2, 0, 0, 0, 0, 0, 0, 0, 0, 0, 0, 0, 0, 0, 0, 0);
        each("isLeftRecursive", x, LEFT_RECURSIVE, 0, 0, 0, 0, 0, 0, 0, 0, 0, 0, 0, 0, 0, 0, 0, 0);
        each("shortest", x, Grammarsmith::shortest, NONE, NONE, NONE, NONE, NONE, NONE, NONE, NONE, NONE, NONE, NONE,
                NONE, NONE, NONE, NONE, NONE);
        for (int n = 0; n <= 15; n++) {
            int nonterminal = n;
            refused("sentence of " + n, x, o -> o.sentence(nonterminal, 0), STATE);
        }
        Grammarsmith on = with("A:aBh");
        each("isNullable of one on a right alone", on, NULLABLE, 0, 0);
        each("first of it", on, Grammarsmith::first, 1, 0);
        each("follow of it", on, Grammarsmith::follow, END, 128);
        each("uses of it", on, Grammarsmith::uses, 2, 2);
        each("shortest of it", on, Grammarsmith::shortest, NONE, NONE);
    }

    // ---- terms

    private static void nullable() {
        says("What is found", "A nonterminal is nullable if nothing can be derived from it.", 14);
        alongChains("nothing", "", NULLABLE, 1);
        alongChains("a terminal", "a", NULLABLE, 0);
        each("five nullable ones", with("A:BBBBB", "B:"), NULLABLE, 1, 1);
        each("the first of five is not", with("A:CBBBB", "B:", "C:c"), NULLABLE, 0, 1, 0);
        each("the last of five is not", with("A:BBBBC", "B:", "C:c"), NULLABLE, 0, 1, 0);
        each("a terminal behind four", with("A:BBBBa", "B:"), NULLABLE, 0, 1);
        each("by the last of its productions", with("A:a|b|B|", "B:b|B"), NULLABLE, 1, 0);
        each("by itself alone", with("A:A", "B:BB"), NULLABLE, 0, 0);
        each("by one without productions", with("A:B"), NULLABLE, 0, 0);
    }

    private static void firsts() {
        says("What is found", "Its firsts are the terminals with which a row of symbols that is derived from it can "
                + "begin, be terminals alone derived of that in the end or not;", 15);
        alongChains("a terminal", "h", Grammarsmith::first, 128);
        alongChains("nothing", "", Grammarsmith::first, 0);
        each("the fifth symbol", with("A:BBBBa", "B:|b"), Grammarsmith::first, 3, 2);
        each("behind one that is not nullable", with("A:BBBCa", "B:|b", "C:c"), Grammarsmith::first, 6, 2, 4);
        each("no terminals in the end", with("A:aA", "B:bC"), Grammarsmith::first, 1, 2, 0);
        each("behind one without productions", with("A:Ba"), Grammarsmith::first, 0, 0);
        each("behind itself", with("A:Aa", "B:Bb|"), Grammarsmith::first, 0, 2);
    }

    private static void behind() {
        says("What is found", "what is behind it are the terminals that can come right behind it in what is derived "
                + "from the start, with the end behind the start, as far as productions tell:", 16);
        alongChains("the end", "a", Grammarsmith::follow, END);
        Grammarsmith x = with("A:a");
        each("the end behind the start", x, Grammarsmith::follow, END, 0, 0, 0, 0, 0, 0, 0);
        x.start(H);
        each("the end behind another start", x, Grammarsmith::follow, 0, 0, 0, 0, 0, 0, 0, END);
        each("the start on a right", with("A:aAh|b"), Grammarsmith::follow, END + 128);
    }

    private static void behindBySymbols() {
        says("What is found", "for each production, useless or not, behind a symbol of its right are the firsts of "
                + "what comes next in it, and, if all of that is nullable, what is behind its left.", 16);
        each("not reached", with("A:a", "B:Ch", "C:CB"), Grammarsmith::follow, END, 128, 128);
        each("not productive", with("A:BAg", "B:CBh"), Grammarsmith::follow, END + 64, 128, 0);
        each("the first of five", with("A:BCCCC", "C:c|"), Grammarsmith::follow, END, END + 4, END + 4);
        each("the first of five, the last is not nullable", with("A:BCCCd", "C:c|"), Grammarsmith::follow,
                END, 4 + 8, 4 + 8);
        each("the second of five is not nullable", with("A:BDCCC", "C:c|", "D:d"), Grammarsmith::follow,
                END, 8, END + 4, END + 4);
        each("the last of five", with("A:aaaaB", "B:Cb|b"), Grammarsmith::follow, END, END, 2);
        each("the same twice", with("A:BB", "B:b"), Grammarsmith::follow, END, END + 2);
        each("without firsts next", with("A:BC", "C:D"), Grammarsmith::follow, END, 0, END, END);
    }

    private static void productive() {
        says("What is found", "It is productive if some row of terminals, perhaps none, is derived from it;", 17, 19);
        alongChains("a terminal", "a", Grammarsmith::uses, 3);
        alongChains("nothing", "", Grammarsmith::uses, 3);
        alongChains("the first of them", "A", Grammarsmith::uses, 2);
        each("the last of five is not", with("A:aaaaB|BBBBB", "B:Bb"), Grammarsmith::uses, 2, 2);
        each("by the last of its productions", with("A:A|B|a", "B:AB"), Grammarsmith::uses, 3, 2);
    }

    private static void reached() {
        says("What is found", "it is reached if it is the start, or on the right of a production of one that is "
                + "reached.", 17);
        each("the start alone", with("B:C", "C:B"), Grammarsmith::uses, 2, 0, 0);
        each("the fifth symbol", with("A:aaaaB|bbbbC", "D:E"), Grammarsmith::uses, 2, 2, 2, 0, 0);
        each("behind one that is not productive", with("A:BC", "C:DC", "D:"), Grammarsmith::uses, 2, 2, 2, 3);
        Grammarsmith x = with("A:B", "B:b", "C:A");
        each("not what reaches the start", x, Grammarsmith::uses, 3, 3, 1);
        x.start(B);
        each("from another start", x, Grammarsmith::uses, 1, 3, 1);
        x.start(C);
        each("from all", x, Grammarsmith::uses, 3, 3, 3);
    }

    private static void leftRecursive() {
        says("What is found", "It is left recursive if something that begins with it is derived from it in one step "
                + "or more (with nullable ones ahead of it, too).", 18);
        each("in one step", with("A:A", "B:Bb|b"), LEFT_RECURSIVE, 1, 1);
        each("in no step", with("A:a", "B:bB", "C:"), LEFT_RECURSIVE, 0, 0, 0);
        alongChains("in sixteen steps", "Aa", LEFT_RECURSIVE, 1);
        alongChains("in sixteen steps, with a terminal ahead", "aA", LEFT_RECURSIVE, 0);
        each("in two steps", with("A:B", "B:C|A", "C:A"), LEFT_RECURSIVE, 1, 1, 1);
        each("on the way to one that is", with("A:B", "B:Bb"), LEFT_RECURSIVE, 0, 1);
        each("four nullable ones ahead", with("A:BBBBA", "B:"), LEFT_RECURSIVE, 1, 0);
        each("the first of four is not nullable", with("A:CBBBA", "B:", "C:c"), LEFT_RECURSIVE, 0, 0, 0);
        each("the last of four is not nullable", with("A:BBBCA", "B:", "C:c"), LEFT_RECURSIVE, 0, 0, 0);
        each("a terminal behind three ahead", with("A:BBBaA", "B:"), LEFT_RECURSIVE, 0, 0);
        each("one without productions ahead", with("A:BA"), LEFT_RECURSIVE, 0, 0);
        each("itself ahead of one that is not productive", with("A:AB"), LEFT_RECURSIVE, 1, 0);
    }

    private static void shortestRow() {
        says("What is found", "Its shortest sentence is the shortest row of terminals, perhaps none, that is derived "
                + "from it, of several with one length the first one by the order of letters.", 19, 20);
        alongChains("one terminal", "h|g", Grammarsmith::shortest, 1);
        alongChains("one terminal", "h|g", (x, n) -> x.sentence(n, 0), 6);
        alongChains("no terminals", "a|", Grammarsmith::shortest, 0);
        spells("one ahead of two", with("A:aa|h"), A, "h");
        spells("none ahead of one", with("A:a|"), A, "");
        spells("a ahead of b", with("A:b|a"), A, "a");
        spells("g ahead of h", with("A:g|h"), A, "g");
        spells("by the first letter", with("A:ba|ab"), A, "ab");
        spells("by the last letter of five", with("A:hhhhh|hhhhg"), A, "hhhhg");
        spells("by the last letter of twenty", with("A:BBBBC|BBBBD", "B:hgfe", "C:hhhh", "D:hhhg"), A,
                "hgfehgfehgfehgfehhhg");
        spells("by the first letter of twenty", with("A:CBBBB|DBBBB", "B:aaaa", "C:haaa", "D:ghhh"), A,
                "ghhhaaaaaaaaaaaaaaaa");
        spells("over parts of other lengths", with("A:BC|CB", "B:b|ba", "C:bbb|"), A, "b");
    }

    private static void spells(String what, Grammarsmith x, int nonterminal, String want) {
        due("length of " + what, x, o -> o.shortest(nonterminal), want.length());
        for (int k = 0; k < want.length(); k++) {
            int place = k;
            due(what + " at " + k, x, o -> o.sentence(nonterminal, place), want.charAt(k) - 'a');
        }
        refused(what + " at its length", x, o -> o.sentence(nonterminal, want.length()), STATE);
        refused(what + " at -1", x, o -> o.sentence(nonterminal, -1), INDEX);
    }

    /** 24 productions, the last of which is the rule. */
    private static Grammarsmith behind23(String rule) {
        String eleven = "A:b" + "|b".repeat(10);
        return with(eleven, eleven, "B:bb", rule);
    }

    private static void production23() {
        says("Symbols and productions", "each has its rules, up to 24 productions", 14, 15, 16, 17, 18, 19, 20);
        due("24 productions", behind23("A:"), Grammarsmith::productions, 24);
        each("nullable by the last one", behind23("A:"), NULLABLE, 1, 0);
        each("nullable by the last one", behind23("C:"), NULLABLE, 0, 0, 1);
        each("firsts by the last one", behind23("A:h"), Grammarsmith::first, 130, 2);
        each("behind by the last one", behind23("A:hhhBA"), Grammarsmith::follow, END, 2 + 128);
        each("productive by the last one", behind23("C:c"), Grammarsmith::uses, 3, 1, 1);
        each("reached by the last one", behind23("A:aaaaC"), Grammarsmith::uses, 3, 1, 2);
        each("left recursive by the last one", behind23("A:A"), LEFT_RECURSIVE, 1, 0);
        each("shortest by the last one", behind23("B:h"), Grammarsmith::shortest, 1, 1, NONE);
        spells("a row by the last one", behind23("B:h"), B, "h");
        spells("the first row by the last one", behind23("A:a"), A, "a");
    }

    // ---- promises 14 to 18

    private static void takesNonterminals(int number, String throwing, Ask ask) {
        promise(number, "- `nonterminal`: 0 to 15");
        within("nonterminal", RICH, ask, 15, INDEX);
        promise(number, throwing);
        for (int odd : new int[] {-1, 16}) {
            refusedWithout("nonterminal " + odd, RICH, o -> ask.of(o, odd), INDEX);
            refusedWithout("nonterminal of the grammar 1 " + odd, RICH_IN_OTHER, o -> ask.of(o, odd), INDEX);
        }
    }

    private static void promises14To18() {
        String throwing = "Throws `IndexOutOfBoundsException` if there is no such nonterminal";
        takesNonterminals(14, throwing, NULLABLE);
        promise(14, "Tells whether a nonterminal is nullable.");
        each("the first and the last helper", with("H:((((((a?b?))))))"), NULLABLE,
                0, 0, 0, 0, 0, 0, 0, 1, 1, 1, 1, 1, 1, 1, 1, 1);
        takesNonterminals(15, throwing, Grammarsmith::first);
        promise(15, "Returns the firsts of a nonterminal, as a set: the bit t for the terminal t.");
        each("firsts", with("A:a|b|c|d|e|f|g|h", "B:h", "C:a", "D:|b"), Grammarsmith::first, 255, 128, 1, 2, 0);
        takesNonterminals(16, throwing, Grammarsmith::follow);
        promise(16, "Returns what is behind a nonterminal, as a set: the bit t for the terminal t, the bit 8 for "
                + "the end.");
        each("behind", with("A:BC|B", "C:a|b|c|d|e|f|g|h", "D:Ah|Ea"), Grammarsmith::follow,
                511 - 127, 511, 384, 0, 1);
        takesNonterminals(17, throwing, Grammarsmith::uses);
        promise(17, "Tells of what use a nonterminal is: 1 if it is productive, and 2 if it is reached, together.");
        each("uses", with("A:B|", "C:", "D:D"), Grammarsmith::uses, 3, 2, 1, 0);
        takesNonterminals(18, throwing, LEFT_RECURSIVE);
        promise(18, "Tells whether a nonterminal is left recursive.");
        each("the first and the last helper", with("H:((((((a*))))))a+"), LEFT_RECURSIVE,
                0, 0, 0, 0, 0, 0, 0, 0, 1, 0, 0, 0, 0, 0, 0, 1);
    }

    // ---- promises 19 and 20

    private static void shortest() {
        takesNonterminals(19, "Throws `IndexOutOfBoundsException` if there is no such nonterminal",
                Grammarsmith::shortest);
        promise(19, "Returns the length of the shortest sentence of a nonterminal.");
        each("shortest", with("A:", "B:h", "C:aaaaa", "D:AB", "E:CCCCC"), Grammarsmith::shortest, 0, 1, 5, 1, 25);
        promise(19, "Returns the length, 99 if it is more; NONE if it is not productive.");
        due("98", longer("a"), o -> o.shortest(A), 98);
        due("99", longer("D"), o -> o.shortest(A), 99);
        due("100", longer("C"), o -> o.shortest(A), 99);
        due("101", longer("B"), o -> o.shortest(A), 99);
        Grammarsmith x = with("A:BBBBB", "B:CCCCC", "C:DDDDD", "D:EEEEE", "E:FFFFF", "F:GGGGG", "G:HHHHH", "H:aaaaa");
        each("powers of 5", x, Grammarsmith::shortest, 99, 99, 99, 99, 99, 99, 25, 5);
        Grammarsmith two = longer("C");
        enter(two, "E:A|AA|GGGGa", "F:AA");
        due("100 and 101 and 200", two, o -> o.shortest(E), 99);
        enter(two, "E:GGGFa");
        due("98 at last", two, o -> o.shortest(E), 98);
        each("not productive", with("A:A", "B:aA", "C:|A"), Grammarsmith::shortest, NONE, NONE, 0, NONE);
    }

    private static void sentence() {
        promise(20, "Returns a terminal of the shortest sentence of a nonterminal.");
        spells("eight letters", with("A:BC", "B:abcde", "C:fgh"), A, "abcdefgh");
        promise(20, "- `nonterminal`: 0 to 15");
        within("nonterminal", () -> chain(true, "h"), (o, n) -> o.sentence(n, 0), 15, INDEX);
        promise(20, "- `place`: from 0");
        Maker twenty = () -> with("A:BBBBB", "B:hgba");
        for (int k = 0; k < 20; k++) {
            int place = k;
            due("place " + k, twenty.make(), o -> o.sentence(A, place), "hgba".charAt(k % 4) - 'a');
        }
        promise(20, "Returns the terminal.");
        spells("each terminal", with("A:h", "B:a"), A, "h");
        spells("each terminal", with("A:h", "B:a"), B, "a");
    }

    private static void sentenceThrows() {
        promise(20, "Throws `IndexOutOfBoundsException` if there is no such nonterminal, or place is below 0");
        for (int odd : new int[] {-1, 16, Integer.MAX_VALUE, Integer.MIN_VALUE}) {
            refusedWithout("nonterminal " + odd, RICH, o -> o.sentence(odd, 0), INDEX);
        }
        for (int odd : new int[] {-1, Integer.MIN_VALUE}) {
            refusedWithout("place " + odd, RICH, o -> o.sentence(A, odd), INDEX);
        }
        promise(20, "Throws `IllegalStateException` if it is not productive,");
        refusedWithout("without productions", RICH, o -> o.sentence(H, 0), STATE);
        refusedWithout("itself alone", () -> with("A:A"), o -> o.sentence(A, 0), STATE);
        promise(20, "its shortest sentence has more than 20 terminals,");
        Maker more = () -> with("A:BBBBC", "B:hgba", "C:Bc", "D:BBBBB", "E:A|AA", "F:E");
        due("20 terminals", more.make(), o -> o.sentence(D, 19), 0);
        refusedWithout("21 terminals, at 0", more, o -> o.sentence(A, 0), STATE);
        refusedWithout("21 terminals, at 20", more, o -> o.sentence(A, 20), STATE);
        refusedWithout("21 terminals of another", more, o -> o.sentence(F, 0), STATE);
        refusedWithout("100 terminals", () -> longer("C"), o -> o.sentence(A, 0), STATE);
        promise(20, "or not so many that one is at this place");
        refusedWithout("place 20 of 20", more, o -> o.sentence(D, 20), STATE);
        refusedWithout("place 4 of 4", more, o -> o.sentence(B, 4), STATE);
        refusedWithout("place 0 of none", () -> with("A:"), o -> o.sentence(A, 0), STATE);
        refusedWithout("the last place of all", RICH, o -> o.sentence(A, Integer.MAX_VALUE), STATE);
    }
}
