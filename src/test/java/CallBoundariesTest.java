/**
 * The boundaries of the calls themselves, of symbols and productions, of a new object and of the grammar in
 * use: each sentence of the document by its name, with the last value inside and the first one outside.
 */
public final class CallBoundariesTest extends Checks {
    private static final int CALLS = 512;
    private static final Maker RICH = Checks::rich;
    private static final Maker RICH_IN_OTHER = Checks::richInOther;

    public static void main(String[] args) {
        the512thCall();
        all512Calls();
        all512Parses();
        asksBehindChanges();
        askingChangesNothing();
        refusalsByTheFirstException();
        terminals();
        nonterminals();
        symbolsOnARight();
        productionsOfTwoGrammars();
        startsAtFirst();
        grammarInUse();
        levelsAndSentenceOfBoth();
        newObject();
        useTakes();
        useOf();
        useReturns();
        useThrows();
        wholly("Terms", "Symbols and productions", "Promise 1", "Promise 7");
        finish();
    }

    // ---- calls

    /** An object behind 511 calls: sums of two kinds, the left one with the higher level, and "B:b" typed. */
    private static Grammarsmith behind511() {
        Grammarsmith x = new Grammarsmith();
        int calls = 0;
        for (char letter : "A:AaA|AbA|c".toCharArray()) {
            x.type(letter);
            calls++;
        }
        x.enter();
        x.wipe();
        x.level(0, 2, LEFT);
        x.level(1, 1, RIGHT);
        for (int k = 0; k < 5; k++) {
            x.put(k, "cacbc".charAt(k) - 'a');
        }
        for (char letter : "B:b".toCharArray()) {
            x.type(letter);
        }
        for (calls += 12; calls < CALLS - 1; calls++) {
            x.productions();
        }
        return x;
    }

    private static void last(String what, Call call, long want) {
        due("the 512th call, " + what, behind511(), call, want);
    }

    private static void lastRefused(String what, Call call, Class<?> want) {
        refused("the 512th call, " + what, behind511(), call, want);
    }

    private static void the512thCall() {
        says("What it is", "An object is used for at most 512 calls after it has been made; "
                + "what later calls answer is free.");
        last("type", o -> o.type('h'), 4);
        last("wipe", Grammarsmith::wipe, 3);
        last("fault", Grammarsmith::fault, NONE);
        last("enter", Grammarsmith::enter, 4);
        last("undo", Grammarsmith::undo, 0);
        last("use", o -> o.use(1), 0);
        last("bring", o -> o.bring(7), 0);
        last("start", o -> o.start(H), A);
        last("level", o -> o.level(0, 5, NEITHER), 2);
        last("productions", Grammarsmith::productions, 3);
        last("left", o -> o.left(2), A);
        last("right", o -> o.right(1, 1), 1);
        last("isNullable", o -> bit(o.isNullable(A)), 0);
        last("first", o -> o.first(A), 4);
        last("follow", o -> o.follow(A), END + 3);
        last("uses", o -> o.uses(A), 3);
        last("isLeftRecursive", o -> bit(o.isLeftRecursive(A)), 1);
        last("shortest", o -> o.shortest(A), 1);
        last("sentence", o -> o.sentence(A, 0), 2);
        last("size", o -> o.size(PREDICTIVE), 1);
        last("conflicts", o -> o.conflicts(PREDICTIVE), 1);
        last("settled", o -> o.settled(SIMPLE), 4);
        last("chosen", Grammarsmith::chosen, SIMPLE);
        last("put", o -> o.put(5, 0), 6);
        last("cut", o -> o.cut(4), 2);
        last("parse", o -> o.parse(MERGED), NONE);
        last("value", o -> o.value(WHOLE), 51);
        last("readings", Grammarsmith::readings, 2);
        last("repair", Grammarsmith::repair, 0);
        lastRefused("type", o -> o.type('i'), ARGUMENT);
        lastRefused("use", o -> o.use(2), INDEX);
        lastRefused("sentence", o -> o.sentence(A, 1), STATE);
    }

    /** All of the calls with a table, which is forgotten again by each second one. */
    private static void all512Calls() {
        says("What it is", "An object is used for at most 512 calls after it has been made");
        Grammarsmith x = new Grammarsmith();
        int calls = 0;
        for (String rule : new String[] {"A:aBa|bBb|cBc|dBd", "B:fghfg|gfhgf|hfghf"}) {
            for (char letter : rule.toCharArray()) {
                x.type(letter);
                calls++;
            }
            x.enter();
            x.wipe();
            calls += 2;
        }
        for (int k = 0; k < 12; k++) {
            x.put(k, 5 + k % 3);
            calls++;
        }
        for (; calls + 4 <= CALLS; calls += 4) {
            due("start ahead of call " + calls, x, o -> o.start(A), A);
            due("size ahead of call " + calls, x, o -> o.size(WHOLE), 74);
            due("readings ahead of call " + calls, x, Grammarsmith::readings, 0);
            due("repair ahead of call " + calls, x, Grammarsmith::repair, 7);
        }
    }

    /** All of the calls but some 30 parse. */
    private static void all512Parses() {
        says("What it is", "An object is used for at most 512 calls after it has been made", 27, 28);
        for (int k = PREDICTIVE; k <= WHOLE; k++) {
            int kind = k;
            Grammarsmith accepted = say(with("A:aA|b"), "aaaaaaaaaaab");
            Grammarsmith wrong = say(with("A:aA|b"), "aaaaaaaaaaaa");
            Grammarsmith stuck = say(with("B:", "C:", "A:BA|Ca"), "a");
            for (int calls = 30; calls + 2 <= CALLS; calls += 2) {
                due("value ahead of call " + calls, accepted, o -> o.value(kind), 178);
                due("parse ahead of call " + calls, accepted, o -> o.parse(kind), NONE);
                refused("value ahead of call " + calls, wrong, o -> o.value(kind), STATE);
                due("parse ahead of call " + calls, wrong, o -> o.parse(kind), 12);
                due("parse ahead of call " + calls, stuck, o -> o.parse(kind), STUCK);
            }
        }
    }

    // ---- what calls change

    /** All nonterminals of the first rules derive each other, and no longer behind undo. */
    private static Grammarsmith circular() {
        Grammarsmith x = say(with("A:B|a", "C:c", "B:A|b"), "a");
        type(x, "A:|C");
        return x;
    }

    /** A grammar that is asked all, then changed, then asked one thing, answers as one that was not asked ahead. */
    private static void asksBehindChanges() {
        says("Terms", "Rules, levels and a sentence are told; productions, tables, parses, readings and repairs "
                + "are asked.", 5, 6, 7, 8, 9, 10, 25, 26);
        Call[] changes = {Grammarsmith::enter, Grammarsmith::undo, o -> o.use(1), o -> o.use(0), o -> o.bring(1),
            o -> o.start(A), o -> o.start(D), o -> o.level(0, 1, LEFT), o -> o.put(0, 2), o -> o.cut(0), o -> o.cut(4)};
        Call[] asks = {o -> bit(o.isNullable(B)), o -> o.first(D), o -> o.follow(A), o -> o.uses(D), o -> o.uses(B),
            o -> bit(o.isLeftRecursive(A)), o -> o.shortest(C), o -> o.shortest(D), o -> o.sentence(A, 0),
            o -> o.sentence(C, 0), o -> o.size(PREDICTIVE), o -> o.size(SIMPLE), o -> o.size(MERGED),
            o -> o.size(WHOLE), o -> o.conflicts(PREDICTIVE), o -> o.conflicts(SIMPLE), o -> o.conflicts(MERGED),
            o -> o.conflicts(WHOLE), o -> o.settled(SIMPLE), o -> o.settled(MERGED), o -> o.settled(WHOLE),
            Grammarsmith::chosen, o -> o.parse(PREDICTIVE), o -> o.parse(SIMPLE), o -> o.parse(MERGED),
            o -> o.parse(WHOLE), o -> o.value(SIMPLE), o -> o.value(WHOLE), Grammarsmith::readings,
            Grammarsmith::repair};
        for (Maker maker : new Maker[] {RICH, RICH_IN_OTHER, CallBoundariesTest::circular}) {
            for (int change = 0; change < changes.length; change++) {
                for (int ask = 0; ask < asks.length; ask++) {
                    Grammarsmith fresh = maker.make();
                    outcome(fresh, changes[change]);
                    Grammarsmith asked = maker.make();
                    for (Call ahead : asks) {
                        outcome(asked, ahead);
                    }
                    outcome(asked, changes[change]);
                    same("ask " + ask + " behind change " + change, outcome(asked, asks[ask]),
                            outcome(fresh, asks[ask]));
                }
            }
        }
        Grammarsmith x = circular();
        due("readings of what has no end", x, Grammarsmith::readings, 100);
        x.undo();
        due("readings behind undo", x, Grammarsmith::readings, 1);
    }

    private static void asksWithout(String what, Call call) {
        unseen(what, RICH, call);
        unseen(what + " in the grammar 1", RICH_IN_OTHER, call);
    }

    private static void askingChangesNothing() {
        says("Terms", "Rules, levels and a sentence are told; productions, tables, parses, readings and repairs "
                + "are asked.", 4, 11, 12, 13, 14, 15, 16, 17, 18, 19, 20, 21, 22, 23, 24, 27, 28, 29, 30);
        asksWithout("fault", Grammarsmith::fault);
        asksWithout("productions", Grammarsmith::productions);
        asksWithout("left", o -> o.left(2));
        asksWithout("right", o -> o.right(1, 1));
        asksWithout("isNullable", o -> bit(o.isNullable(B)));
        asksWithout("first", o -> o.first(15));
        asksWithout("follow", o -> o.follow(B));
        asksWithout("uses", o -> o.uses(B));
        asksWithout("isLeftRecursive", o -> bit(o.isLeftRecursive(B)));
        asksWithout("shortest", o -> o.shortest(B));
        asksWithout("sentence", o -> o.sentence(A, 0));
        for (int k = PREDICTIVE; k <= WHOLE; k++) {
            int kind = k;
            asksWithout("size", o -> o.size(kind));
            asksWithout("conflicts", o -> o.conflicts(kind));
            asksWithout("settled", o -> o.settled(kind));
            asksWithout("parse", o -> o.parse(kind));
            asksWithout("value", o -> o.value(kind));
        }
        asksWithout("chosen", Grammarsmith::chosen);
        asksWithout("readings", Grammarsmith::readings);
        asksWithout("repair", Grammarsmith::repair);
    }

    private static void refusalsByTheFirstException() {
        says("Terms", "A call that throws an exception changes nothing; if several exceptions apply, the one that "
                + "its throws clause names first is thrown.", 2, 5, 8, 10, 20, 25, 28);
        Maker fullText = typed("A:a|aa|aaa|aaaa|aaaaa|aa", "A:ab", "B:a?");
        refusedWithout("no letter behind 24 letters", fullText, o -> o.type('i'), ARGUMENT);
        Maker fullGrammar = typed("A:abcdef?(", bars(22), "B:a|b");
        refusedWithout("no rule into a full grammar", fullGrammar, Grammarsmith::enter, ARGUMENT);
        Maker noRoom = other(new String[] {bars(22), "B:a|b"}, "A:a");
        refusedWithout("no shift, and no room", noRoom, o -> o.bring(8), ARGUMENT);
        refusedWithout("no shift, and no room", noRoom, o -> o.bring(-1), ARGUMENT);
        refusedWithout("no terminal, and no level", RICH, o -> o.level(8, 6, LEFT), INDEX);
        refusedWithout("no terminal, and no level", RICH, o -> o.level(-1, -1, LEFT), INDEX);
        refusedWithout("no side, and no level", RICH, o -> o.level(0, 6, 3), INDEX);
        refusedWithout("no side, and no level", RICH, o -> o.level(0, -1, -1), INDEX);
        refusedWithout("no such place, and not productive", RICH, o -> o.sentence(C, -1), INDEX);
        refusedWithout("no such nonterminal, and nothing there", RICH, o -> o.sentence(16, 99), INDEX);
        Maker fullSentence = () -> say(rich(), "abcdefghabcd");
        refusedWithout("no such place, and no room", fullSentence, o -> o.put(13, 0), INDEX);
        refusedWithout("no such place, and no room", fullSentence, o -> o.put(-1, 0), INDEX);
        refusedWithout("no such terminal, and no room", fullSentence, o -> o.put(12, 8), INDEX);
        refusedWithout("no such terminal, and no room", fullSentence, o -> o.put(0, -1), INDEX);
        Maker notAccepted = () -> say(rich(), "cab");
        refusedWithout("no such kind, and not accepted", notAccepted, o -> o.value(4), INDEX);
        refusedWithout("no such kind, and not accepted", notAccepted, o -> o.value(-1), INDEX);
    }

    // ---- symbols and productions

    private static void terminals() {
        says("Symbols and productions", "Terminals are 0 to 7, written a to h; 8 is the end of a sentence, "
                + "and in no production.", 2, 10, 13, 15, 16, 25);
        Grammarsmith x = with("A:Bah", "B:|h|a");
        same("the first and the last terminal", x.right(0, 1) + " " + x.right(0, 2), "0 7");
        refusedWithout("the letter behind h", RICH, o -> o.type('i'), ARGUMENT);
        refusedWithout("the letter ahead of a", RICH, o -> o.type('`'), ARGUMENT);
        for (int p = 0; p < 4; p++) {
            for (int place = 0; place < 5; place++) {
                if (x.right(p, place) == 8) {
                    fail("the end is on a right");
                }
            }
        }
        due("firsts are without the end", x, o -> o.first(B), 1 + 128);
        due("behind the start is the end", x, o -> o.follow(A), END);
        due("behind B is no end", x, o -> o.follow(B), 1);
        within("put of the terminal", RICH, (o, t) -> o.put(0, t), 7, INDEX);
        within("level of the terminal", RICH, (o, t) -> o.level(t, 1, LEFT), 7, INDEX);
    }

    private static void nonterminals() {
        says("Symbols and productions", "Nonterminals are 0 to 15: 0 to 7 are written A to H, 8 to 15 are helpers.",
                2, 5, 9, 12, 13, 14, 15, 16, 17, 18, 19, 20);
        Grammarsmith x = with("H:AH((((((((a))))))))");
        same("all helpers", rights(x), "8:a 9:8 10:9 11:10 12:11 13:12 14:13 15:14 H:AH15 ");
        due("the first helper", x, o -> o.left(0), 8);
        due("the last helper", x, o -> o.left(7), 15);
        due("H", x, o -> o.left(8), 7);
        each("A, H, and the last helper as symbols", x, (o, place) -> o.right(8, place), 16, 23, 31, NONE);
        refusedWithout("the letter behind H", RICH, o -> o.type('I'), ARGUMENT);
        refusedWithout("the letter ahead of A", RICH, o -> o.type('@'), ARGUMENT);
        within("isNullable of", RICH, (o, n) -> bit(o.isNullable(n)), 15, INDEX);
        within("start of", RICH, (o, n) -> o.start(n), 7, INDEX);
    }

    private static void symbolsOnARight() {
        says("Symbols and productions", "A production has a nonterminal on its left, and 0 to 5 symbols on its "
                + "right, in an order.", 5, 13);
        becomes("A:", "A: ");
        becomes("A:edcba", "A:edcba ");
        becomes("A:abcde", "A:abcde ");
        refusedWithout("six symbols", typed("A:abcdea", "A:ab"), Grammarsmith::enter, STATE);
        each("no symbols", with("B:"), (o, place) -> o.right(0, place), NONE, NONE, NONE, NONE, NONE);
        each("five symbols", with("B:hAHaB"), (o, place) -> o.right(0, place), 7, 16, 23, 0, 17);
    }

    private static void productionsOfTwoGrammars() {
        says("Symbols and productions", "There are two grammars, 0 and 1; each has its rules, up to 24 productions, "
                + "numbered from 0 in the order in which they came", 5, 7, 11, 12);
        Grammarsmith x = with(bars(22), "B:b");
        due("the 24th production", x, Grammarsmith::enter, 24);
        refused("the 25th production", x, Grammarsmith::enter, STATE);
        due("the other grammar", x, o -> o.use(1), 0);
        enter(x, "C:|||||||||||||||||||||", "D:d");
        due("its 24th production", x, Grammarsmith::enter, 24);
        refused("its 25th production", x, Grammarsmith::enter, STATE);
        dues("its productions", x, new Call[] {o -> o.left(0), o -> o.left(21), o -> o.left(22), o -> o.left(23)},
                C, C, D, D);
        x.use(0);
        dues("productions", x, new Call[] {o -> o.left(0), o -> o.left(21), o -> o.left(22), o -> o.left(23)},
                A, A, B, B);
        refused("the production 24", x, o -> o.left(24), INDEX);
        refused("the production -1", x, o -> o.left(-1), INDEX);
        refused("the grammar 2", x, o -> o.use(2), INDEX);
    }

    private static void startsAtFirst() {
        says("Symbols and productions", ", and a start, which is the nonterminal 0 at first.", 1, 9);
        Grammarsmith x = new Grammarsmith();
        due("the end is behind A", x, o -> o.follow(A), END);
        due("nothing is behind B", x, o -> o.follow(B), 0);
        due("the start", x, o -> o.start(G), A);
        x.use(1);
        due("the end is behind A of 1", x, o -> o.follow(A), END);
        due("the start of 1", x, o -> o.start(H), A);
        due("the start of 1 again", x, o -> o.start(H), H);
        x.use(0);
        due("the start of 0", x, o -> o.start(A), G);
    }

    private static void grammarInUse() {
        says("Symbols and productions", "One of the grammars is in use, the grammar 0 at first; all calls are about "
                + "that one.", 1, 7);
        due("the grammar at first", new Grammarsmith(), o -> o.use(0), 0);
        String[] rules = {"A:aA|b", "B:A?"};
        Maker here = () -> say(with(rules), "aab");
        Maker there = () -> {
            Grammarsmith x = with("A:A", "C:c|(d)");
            x.start(C);
            x.use(1);
            enter(x, rules);
            x.use(0);
            x.use(1);
            return say(x, "aab");
        };
        same("tables of the grammar 1", Sight.tables(there.make()), Sight.tables(here.make()));
        same("productions of the grammar 1", rights(there.make()), rights(here.make()));
        Grammarsmith x = there.make();
        due("undo in the grammar 1", x, Grammarsmith::undo, 2);
        due("undo in the grammar 1", x, Grammarsmith::undo, 0);
        refused("a third undo in the grammar 1", x, Grammarsmith::undo, STATE);
        due("bring into the grammar 1", x, o -> o.bring(1), 2);
        same("brought into the grammar 1", rights(x), "B:B 8:d D:c D:8 ");
        x.use(0);
        same("the grammar 0", rights(x), "A:A 8:d C:c C:8 ");
    }

    private static void levelsAndSentenceOfBoth() {
        says("Symbols and productions", "Levels and the sentence are of both.", 7, 10, 25, 26);
        Grammarsmith x = new Grammarsmith();
        for (int t = 0; t < 8; t++) {
            x.level(t, 5 - t % 5, t % 3);
        }
        say(x, "abcdefghabcd");
        x.use(1);
        each("levels in the grammar 1", x, (o, t) -> o.level(t, t % 5, LEFT), 5, 4, 3, 2, 1, 5, 4, 3);
        refused("a 13th terminal", x, o -> o.put(0, 0), STATE);
        due("cut", x, o -> o.cut(11), 3);
        x.use(0);
        each("levels in the grammar 0", x, (o, t) -> o.level(t, 0, LEFT), 0, 1, 2, 3, 4, 0, 1, 2);
        same("the sentence", spoken(x), "abcdefghabc");
        Grammarsmith sides = say(with("A:AaA|c"), "cacac");
        sides.use(1);
        enter(sides, "A:AaA|c");
        sides.level(0, 1, NEITHER);
        due("a side in the grammar 1", sides, o -> o.parse(SIMPLE), 3);
        sides.use(0);
        due("a side in the grammar 0", sides, o -> o.parse(SIMPLE), 3);
    }

    // ---- promise 1

    private static void newObject() {
        promise(1, "`Grammarsmith()`: Creates two grammars without rules, without levels, with an empty sentence.");
        Grammarsmith x = new Grammarsmith();
        for (int grammar = 1; grammar >= 0; grammar--) {
            int next = grammar;
            due("use", x, o -> o.use(next), 1 - grammar);
            due("productions", x, Grammarsmith::productions, 0);
            refused("undo", x, Grammarsmith::undo, STATE);
            refused("left", x, o -> o.left(0), INDEX);
            refused("right", x, o -> o.right(0, 0), INDEX);
            due("bring", x, o -> o.bring(0), 0);
            each("parse", x, Grammarsmith::parse, 0, 0, 0, 0);
        }
        refused("cut", x, o -> o.cut(0), INDEX);
        refused("put behind the end", x, o -> o.put(1, 0), INDEX);
        due("put at the end", x, o -> o.put(0, 0), 1);
        each("levels", x, (o, t) -> o.level(t, 5, RIGHT), 0, 0, 0, 0, 0, 0, 0, 0);
        due("letters", x, Grammarsmith::wipe, 0);
        refused("a text that is no rule", x, Grammarsmith::enter, ARGUMENT);
        each("levels of the next object", new Grammarsmith(), (o, t) -> o.level(t, 0, LEFT), 0, 0, 0, 0, 0, 0, 0, 0);
        Grammarsmith sums = say(with("A:AaA|c"), "cacac");
        due("no conflict is settled", sums, o -> o.settled(SIMPLE), 0);
        int leaf = 2 + 3;
        int last = 1 + leaf + 2 + 3 * leaf;
        due("shifting goes first", sums, o -> o.value(SIMPLE), 1 + leaf + 2 + 3 * last);
    }

    // ---- promise 7

    private static void useTakes() {
        promise(7, "Takes a grammar into use.");
        Grammarsmith x = with("A:a");
        x.use(0);
        due("the same grammar", x, Grammarsmith::productions, 1);
        x.use(1);
        due("the other grammar", x, Grammarsmith::productions, 0);
        x.use(1);
        due("the other grammar still", x, Grammarsmith::productions, 0);
        x.use(0);
        due("the first grammar", x, Grammarsmith::productions, 1);
        type(x, "B:b|");
        x.use(1);
        due("the text goes on in the other grammar", x, o -> o.type('c'), 5);
        due("the text entered there", x, Grammarsmith::enter, 2);
        x.use(0);
        due("the text goes on in the first grammar", x, o -> o.type('|'), 6);
        due("the text entered here, too", x, Grammarsmith::enter, 4);
        same("the rules of the first grammar", rights(x), "A:a B:b B:c B: ");
    }

    private static void useOf() {
        promise(7, "- `grammar`: 0 or 1");
        within("use", RICH, Grammarsmith::use, 1, INDEX);
    }

    private static void useReturns() {
        promise(7, "Returns the one that was in use.");
        Grammarsmith x = new Grammarsmith();
        dues("use 0 1 1 0 0", x, new Call[] {o -> o.use(0), o -> o.use(1), o -> o.use(1), o -> o.use(0),
            o -> o.use(0)}, 0, 0, 1, 1, 0);
    }

    private static void useThrows() {
        promise(7, "Throws `IndexOutOfBoundsException` if there is no such grammar");
        for (int odd : new int[] {-1, 2}) {
            refusedWithout("use " + odd, RICH, o -> o.use(odd), INDEX);
            refusedWithout("use in the grammar 1 " + odd, RICH_IN_OTHER, o -> o.use(odd), INDEX);
        }
    }
}
