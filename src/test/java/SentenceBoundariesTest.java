/**
 * The boundaries of the sentence, of parsers, readings and repairs: each sentence of the document by its name,
 * with the last value inside and the first one outside.
 */
public final class SentenceBoundariesTest extends Checks {
    private static final Maker RICH = Checks::rich;
    private static final Maker RICH_IN_OTHER = Checks::richInOther;
    private static final Ask PARSE = Grammarsmith::parse;
    private static final Ask VALUE = Grammarsmith::value;

    public static void main(String[] args) {
        Runnable[] sentences = {
            SentenceBoundariesTest::begins, SentenceBoundariesTest::steps, SentenceBoundariesTest::predictiveSteps,
            SentenceBoundariesTest::noAction, SentenceBoundariesTest::stuckBehind300Steps,
            SentenceBoundariesTest::endingIsNoStep, SentenceBoundariesTest::stuckForEver,
            SentenceBoundariesTest::valuesOfTerminals, SentenceBoundariesTest::valuesOfProductions,
            SentenceBoundariesTest::remainders, SentenceBoundariesTest::readingsOfTrees,
            SentenceBoundariesTest::editsOfARepair, SentenceBoundariesTest::putPuts,
            SentenceBoundariesTest::putPlaces, SentenceBoundariesTest::putTerminals,
            SentenceBoundariesTest::putReturns, SentenceBoundariesTest::putNoSuch, SentenceBoundariesTest::putFull,
            SentenceBoundariesTest::cutTakes, SentenceBoundariesTest::cutPlaces, SentenceBoundariesTest::cutReturns,
            SentenceBoundariesTest::cutThrows, SentenceBoundariesTest::parse, SentenceBoundariesTest::parseReturns,
            SentenceBoundariesTest::value, SentenceBoundariesTest::valueThrows, SentenceBoundariesTest::readings,
            SentenceBoundariesTest::readingsAndRepairsInTurn, SentenceBoundariesTest::repair};
        for (Runnable sentence : sentences) {
            sentence.run();
        }
        wholly("Parsing", "Readings and repairs", "Promise 25", "Promise 26", "Promise 27", "Promise 28",
                "Promise 29", "Promise 30");
        finish();
    }

    private static void parsed(Grammarsmith x, String sentence, long... wants) {
        each("parse " + sentence, say(x, sentence), PARSE, wants);
    }

    // ---- terms: parsing

    private static void begins() {
        says("Parsing", "A parser begins with the first state (PREDICTIVE: with the start to be derived).", 27);
        Grammarsmith x = with("A:a", "H:h");
        parsed(x, "a", NONE, NONE, NONE, NONE);
        parsed(x, "h", 0, 0, 0, 0);
        x.start(H);
        parsed(x, "h", NONE, NONE, NONE, NONE);
        parsed(x, "a", 0, 0, 0, 0);
        parsed(new Grammarsmith(), "", 0, 0, 0, 0);
    }

    private static void steps() {
        says("Parsing", "In each step it does the action of the cell of its present state and the next terminal of the "
                + "sentence, or the end: it shifts, and comes to the next state; or it reduces: goes back by as many "
                + "states as the right is long, and from there over the left; or it accepts.", 27, 28);
        String[] rights = {"", "a", "ab", "abc", "abcd", "abcde"};
        int value = 0;
        for (int length = 0; length <= 5; length++) {
            value += length * length;
            Grammarsmith x = with("B:" + rights[length], "A:fB");
            parsed(x, "f" + rights[length], NONE, NONE, NONE, NONE);
            int root = 2 + 6 + 2 * (1 + value);
            each("value of a right of " + length, x, VALUE, root, root, root, root);
            parsed(x, rights[length], 0, 0, 0, 0);
            parsed(x, "f" + rights[length] + "h", length + 1, length + 1, length + 1, length + 1);
        }
        Grammarsmith helpers = from(H, say(with("H:((((((((a))))))))"), "a"));
        int helper = 1 + 1;
        for (int p = 1; p <= 7; p++) {
            helper += p + 1;
        }
        int whole = 9 + helper;
        each("value over all helpers", helpers, VALUE, whole, whole, whole, whole);
    }

    private static void predictiveSteps() {
        says("Parsing", "(PREDICTIVE: a terminal to be derived next is taken, if it is the next one of the sentence; a "
                + "nonterminal is replaced by the right of the production of its cell; with nothing left to be derived, "
                + "it accepts at the end.)", 27);
        Grammarsmith x = with("A:aBh", "B:b|");
        parsed(x, "abh", NONE, NONE, NONE, NONE);
        parsed(x, "ah", NONE, NONE, NONE, NONE);
        parsed(x, "abha", 3, 3, 3, 3);
        parsed(x, "aha", 2, 2, 2, 2);
        parsed(x, "ab", 2, 2, 2, 2);
        parsed(x, "abb", 2, 2, 2, 2);
        parsed(x, "aa", 1, 1, 1, 1);
        parsed(with("A:"), "", NONE, NONE, NONE, NONE);
        parsed(with("A:"), "h", 0, 0, 0, 0);
    }

    private static void noAction() {
        says("Parsing", "If there is no action, the sentence is wrong at the next terminal.", 27);
        String sentence = "abcdabcdabcd";
        for (int place = 0; place < 12; place++) {
            String wrong = sentence.substring(0, place) + "h" + sentence.substring(place + 1);
            parsed(with("A:abcdA|"), wrong, place, place, place, place);
        }
        for (int length = 0; length <= 12; length++) {
            int due = length % 4 == 0 ? NONE : length;
            parsed(with("A:abcdA|"), sentence.substring(0, length), due, due, due, due);
        }
        Grammarsmith settled = say(with("A:AaA|c"), "cacacacacaca");
        settled.level(0, 1, NEITHER);
        each("a settled conflict without action", settled, (o, k) -> o.parse(k + 1), 3, 3, 3);
    }

    /**
     * D is derived in 1 step, C in 6, B in 31, A in 156; F in 294 and those of its last part E; H takes an a
     * behind F.
     */
    private static Grammarsmith counted(String ofE) {
        return with("D:", "C:DDDDD", "B:CCCCC", "A:BBBBB", "E:" + ofE, "G:BCCE", "F:ABBBG", "H:Fa");
    }

    private static Grammarsmith from(int start, Grammarsmith x) {
        x.start(start);
        return x;
    }

    private static void stuckBehind300Steps() {
        says("Parsing", "If it has neither accepted nor found it wrong behind 300 steps, it is STUCK.", 27, 28);
        Grammarsmith most = from(F, counted("DDDDD"));
        parsed(most, "", NONE, NONE, NONE, NONE);
        Grammarsmith more = from(F, counted("C"));
        parsed(more, "", STUCK, STUCK, STUCK, STUCK);
        for (int k = PREDICTIVE; k <= WHOLE; k++) {
            int kind = k;
            due("300 steps", most, o -> bit(o.value(kind) >= 0), 1);
            refused("301 steps", more, o -> o.value(kind), STATE);
        }
        parsed(from(H, counted("DDD")), "a", NONE, NONE, NONE, NONE);
        parsed(from(H, counted("DDDD")), "a", STUCK, STUCK, STUCK, STUCK);
        parsed(from(H, shifting("DDDD")), "hhhhhh", NONE, NONE, NONE, NONE);
        parsed(from(H, shifting("DDDDD")), "hhhhhh", STUCK, STUCK, STUCK, STUCK);
    }

    /** H is derived in 295 steps and those of E, six of them over a terminal. */
    private static Grammarsmith shifting(String ofE) {
        return with("D:", "C:DDDDD", "B:CCCCC", "A:BBBBB", "E:" + ofE, "F:BChhE", "G:ABBBF", "H:hhhhG");
    }

    private static void endingIsNoStep() {
        says("Parsing", "(Accepting and finding it wrong are no steps.)", 27);
        parsed(from(F, counted("DDDDD")), "", NONE, NONE, NONE, NONE);
        parsed(from(H, counted("DDD")), "ab", 1, 1, 1, 1);
        parsed(from(H, counted("DDDD")), "ab", STUCK, 1, 1, 1);
        parsed(from(H, counted("DDDDD")), "ab", STUCK, STUCK, STUCK, STUCK);
        parsed(from(H, counted("C")), "ab", STUCK, STUCK, STUCK, STUCK);
    }

    private static void stuckForEver() {
        says("Parsing", "it is STUCK.", 27);
        parsed(with("A:Aa|a"), "a", STUCK, NONE, NONE, NONE);
        parsed(with("A:AAAAA|a"), "a", STUCK, NONE, NONE, NONE);
        parsed(with("A:Aaaaa|b"), "b", STUCK, NONE, NONE, NONE);
        Grammarsmith empties = with("B:", "C:", "A:BA|Ca");
        parsed(empties, "a", STUCK, STUCK, STUCK, STUCK);
        parsed(empties, "b", 0, 0, 0, 0);
        refused("no value", say(empties, "a"), o -> o.value(WHOLE), STATE);
    }

    private static void valuesOfTerminals() {
        says("Parsing", "The value of a terminal in a tree is its number and 1;", 28);
        for (int t = 0; t <= 7; t++) {
            String letter = Character.toString((char) ('a' + t));
            each("value of " + letter, say(with("A:" + letter), letter), VALUE, 2 + t, 2 + t, 2 + t, 2 + t);
        }
    }

    private static void valuesOfProductions() {
        says("Parsing", "that of a production p is p and 1, and 1 times the value of its first part, 2 times that of its "
                + "second one, and so on, together,", 28);
        each("the production 0", with("A:"), VALUE, 1, 1, 1, 1);
        each("the production 23", from(B, with(bars(23), "B:")), VALUE, 24, 24, 24, 24);
        each("the production 22", from(B, with(bars(22), "B:", "A:")), VALUE, 23, 23, 23, 23);
        each("five parts", say(with("A:aaaaa"), "aaaaa"), VALUE, 16, 16, 16, 16);
        for (int place = 0; place < 5; place++) {
            StringBuilder right = new StringBuilder("aaaaa");
            right.setCharAt(place, 'h');
            int value = 16 + 7 * (place + 1);
            each("h as the part " + place, say(with("A:" + right), right.toString()), VALUE,
                    value, value, value, value);
        }
        int part = 3 + 2;
        int root = 2 + part + 2 * part;
        each("parts of parts", say(with("C:c", "A:BB", "B:b"), "bb"), VALUE, root, root, root, root);
    }

    /** B has the value 258, E 58; A is made of them and of two terminals. */
    private static Grammarsmith around1009(String terminals) {
        return say(with("D:", "C:DDDDD", "B:CCCCC", "E:CCD", "A:BBE" + terminals, "F:Aa"), terminals);
    }

    private static void remainders() {
        says("Parsing", ", of which the remainder by 1009.", 28);
        int without = 5 + 258 + 2 * 258 + 3 * 58;
        same("1008 is made", without + 4 * 5 + 5 * 7 + "", "1008");
        each("1008", around1009("eg"), VALUE, 1008, 1008, 1008, 1008);
        each("1009", around1009("dh"), VALUE, 0, 0, 0, 0);
        each("1010", around1009("he"), VALUE, 1, 1, 1, 1);
        each("1008 in another", from(F, say(around1009("eg"), "ega")), VALUE, 7, 7, 7, 7);
        each("1009 in another", from(F, say(around1009("dh"), "dha")), VALUE, 8, 8, 8, 8);
        each("1010 in another", from(F, say(around1009("he"), "hea")), VALUE, 9, 9, 9, 9);
        Grammarsmith twice = with("D:", "C:DDDDD", "B:CCCCC", "A:BBBBB");
        int many = (4 + 15 * 258) % 1009;
        each("more than three times", twice, VALUE, many, many, many, many);
    }

    // ---- terms: readings and repairs

    private static void readingsOfTrees() {
        says("Readings and repairs", "The readings of a sentence are the trees by which it is derived from the start, "
                + "whatever tables are.", 29);
        Grammarsmith large = broad();
        enter(large, "A:g");
        due("tables that are too large", say(large, "g"), Grammarsmith::readings, 1);
        due("parsers that are stuck", say(with("B:", "C:", "A:BA|Ca"), "a"), Grammarsmith::readings, 100);
        Grammarsmith settled = say(with("A:AaA|c"), "cacac");
        settled.level(0, 1, NEITHER);
        due("a conflict without action", settled, Grammarsmith::readings, 2);
        due("from the start", from(B, say(with("A:a", "B:b"), "a")), Grammarsmith::readings, 0);
        due("two productions alike", say(with("A:a|a"), "a"), Grammarsmith::readings, 2);
    }

    private static void editsOfARepair() {
        says("Readings and repairs", "The least repair is the fewest edits by which a sentence that is derived from the "
                + "start comes of it; an edit puts a terminal in, takes one out, or puts one in the place of another "
                + "one.", 30);
        Grammarsmith x = with("A:abcde");
        String[] none = {"abcde"};
        String[] one = {"bcde", "abde", "abcd", "habcde", "abhcde", "abcdeh", "hbcde", "abhde", "abcdh"};
        String[] two = {"cde", "ade", "abc", "bcd", "hhabcde", "abcdehh", "habcdeh", "hbcdh", "bcdeh", "habcd", "bacde"};
        for (String sentence : none) {
            due("repair of " + sentence, say(x, sentence), Grammarsmith::repair, 0);
        }
        for (String sentence : one) {
            due("repair of " + sentence, say(x, sentence), Grammarsmith::repair, 1);
        }
        for (String sentence : two) {
            due("repair of " + sentence, say(x, sentence), Grammarsmith::repair, 2);
        }
        due("a longer sentence than can be put", say(with("A:BBBB", "B:aaaa"), "aaaaaaaaaaaa"), Grammarsmith::repair, 4);
        due("from the start", from(B, say(with("A:a", "B:bb"), "a")), Grammarsmith::repair, 2);
    }

    // ---- promise 25

    private static void putPuts() {
        promise(25, "Puts a terminal into the sentence.");
        Grammarsmith x = with("A:h");
        parsed(x, "", 0, 0, 0, 0);
        x.put(0, 7);
        each("parse", x, PARSE, NONE, NONE, NONE, NONE);
        same("the sentence", spoken(x), "h");
    }

    private static void putPlaces() {
        promise(25, "- `place`: 0 to its length: its place then; those from there on are one place further");
        String letters = "abcdefghabc";
        for (int length = 0; length <= 11; length++) {
            String sentence = letters.substring(0, length);
            for (int place = 0; place <= length; place++) {
                Grammarsmith x = say(new Grammarsmith(), sentence);
                x.put(place, 7);
                same("put at " + place, spoken(x), sentence.substring(0, place) + "h" + sentence.substring(place));
            }
            within("place in " + length, () -> say(new Grammarsmith(), sentence), (o, place) -> o.put(place, 7),
                    length, INDEX);
        }
    }

    private static void putTerminals() {
        promise(25, "- `terminal`: 0 to 7");
        within("terminal", RICH, (o, t) -> o.put(0, t), 7, INDEX);
        within("terminal at the end", RICH, (o, t) -> o.put(5, t), 7, INDEX);
        for (int t = 0; t <= 7; t++) {
            Grammarsmith x = new Grammarsmith();
            x.put(0, t);
            int terminal = t;
            due("the terminal", x, o -> o.cut(0), terminal);
        }
    }

    private static void putReturns() {
        promise(25, "Returns its length then.");
        Grammarsmith x = new Grammarsmith();
        for (int length = 1; length <= 12; length++) {
            due("put", x, o -> o.put(0, 0), length);
        }
    }

    private static void putNoSuch() {
        promise(25, "Throws `IndexOutOfBoundsException` if there is no such place or terminal");
        for (int place : new int[] {-1, 6}) {
            refusedWithout("place " + place, RICH, o -> o.put(place, 0), INDEX);
            refusedWithout("place in the grammar 1 " + place, RICH_IN_OTHER, o -> o.put(place, 0), INDEX);
        }
        for (int t : new int[] {-1, 8}) {
            refusedWithout("terminal " + t, RICH, o -> o.put(5, t), INDEX);
        }
        refusedWithout("place 1 of none", () -> with("A:a"), o -> o.put(1, 0), INDEX);
        Maker full = () -> say(rich(), "cacbcacbcacb");
        for (int place : new int[] {-1, 13}) {
            refusedWithout("place of twelve " + place, full, o -> o.put(place, 0), INDEX);
        }
    }

    private static void putFull() {
        promise(25, "Throws `IllegalStateException` if it has 12");
        Maker eleven = () -> say(rich(), "cacbcacbcac");
        Maker twelve = () -> say(rich(), "cacbcacbcacb");
        for (int place : new int[] {0, 6, 11, 12}) {
            due("the 12th at " + Math.min(place, 11), eleven.make(), o -> o.put(Math.min(place, 11), 1), 12);
            refusedWithout("a 13th at " + place, twelve, o -> o.put(place, 1), STATE);
        }
        Grammarsmith again = twelve.make();
        again.cut(11);
        due("the 12th again", again, o -> o.put(11, 7), 12);
        refused("a 13th again", again, o -> o.put(0, 7), STATE);
    }

    // ---- promise 26

    private static void cutTakes() {
        promise(26, "Takes a terminal out of the sentence.");
        String letters = "abcdefghabcd";
        for (int length = 1; length <= 12; length++) {
            String sentence = letters.substring(0, length);
            for (int place = 0; place < length; place++) {
                Grammarsmith x = say(new Grammarsmith(), sentence);
                x.cut(place);
                same("cut at " + place, spoken(x), sentence.substring(0, place) + sentence.substring(place + 1));
            }
        }
        Grammarsmith twelve = say(with("A:abcdA|"), "abcdabcdabcd");
        each("twelve", twelve, PARSE, NONE, NONE, NONE, NONE);
        twelve.cut(11);
        each("eleven", twelve, PARSE, 11, 11, 11, 11);
        Grammarsmith one = say(with("A:"), "h");
        one.cut(0);
        each("none", one, PARSE, NONE, NONE, NONE, NONE);
    }

    private static void cutPlaces() {
        promise(26, "- `place`: the place of a terminal");
        String letters = "abcdefghabcd";
        for (int length = 1; length <= 12; length++) {
            String sentence = letters.substring(0, length);
            within("place in " + length, () -> say(new Grammarsmith(), sentence), Grammarsmith::cut, length - 1, INDEX);
        }
    }

    private static void cutReturns() {
        promise(26, "Returns the terminal.");
        Grammarsmith x = say(new Grammarsmith(), "ahbgcfde");
        each("cut in turn", x, (o, k) -> o.cut(0), 0, 7, 1, 6, 2, 5, 3, 4);
        each("cut the last", say(new Grammarsmith(), "abcdefgh"), (o, k) -> o.cut(7 - k), 7, 6, 5, 4, 3, 2, 1, 0);
    }

    private static void cutThrows() {
        promise(26, "Throws `IndexOutOfBoundsException` if there is no such place");
        for (int place : new int[] {-1, 5, 12}) {
            refusedWithout("place " + place, RICH, o -> o.cut(place), INDEX);
            refusedWithout("place in the grammar 1 " + place, RICH_IN_OTHER, o -> o.cut(place), INDEX);
        }
        refusedWithout("place 0 of none", () -> with("A:a"), o -> o.cut(0), INDEX);
        refusedWithout("place 12 of twelve", () -> say(rich(), "cacbcacbcacb"), o -> o.cut(12), INDEX);
    }

    // ---- promise 27

    private static void parse() {
        promise(27, "Parses the sentence.");
        parsed(with("A:aA|"), "aaaaaaaaaaaa", NONE, NONE, NONE, NONE);
        parsed(with("A:aA|"), "", NONE, NONE, NONE, NONE);
        promise(27, "- `kind`: PREDICTIVE to WHOLE");
        within("kind", RICH, PARSE, 3, INDEX);
        promise(27, "Throws `IndexOutOfBoundsException` if there is no such kind");
        for (int odd : new int[] {-1, 4}) {
            refusedWithout("kind " + odd, RICH, o -> o.parse(odd), INDEX);
            refusedWithout("kind in the grammar 1 " + odd, RICH_IN_OTHER, o -> o.parse(odd), INDEX);
        }
    }

    private static void parseReturns() {
        promise(27, "Returns NONE if it is accepted; the place of the terminal at which it is wrong, its length at the "
                + "end; STUCK; TOO_LARGE.");
        Grammarsmith list = with("A:aA|b");
        parsed(list, "aaaaaaaaaaab", NONE, NONE, NONE, NONE);
        parsed(list, "aaaaaaaaaaaa", 12, 12, 12, 12);
        parsed(list, "aaaaaaaaaaac", 11, 11, 11, 11);
        parsed(list, "caaaaaaaaaab", 0, 0, 0, 0);
        parsed(list, "b", NONE, NONE, NONE, NONE);
        parsed(list, "bb", 1, 1, 1, 1);
        parsed(list, "", 0, 0, 0, 0);
        parsed(with("A:Aa|"), "a", STUCK, NONE, NONE, NONE);
        Grammarsmith x = broad();
        parsed(x, "aaaaa", NONE, NONE, NONE, NONE);
        enter(x, "A:g");
        parsed(x, "aaaaa", NONE, TOO_LARGE, TOO_LARGE, TOO_LARGE);
        parsed(x, "", 0, TOO_LARGE, TOO_LARGE, TOO_LARGE);
    }

    // ---- promise 28

    private static void value() {
        promise(28, "Returns the value of the tree by which the sentence is accepted: that of the production of the start "
                + "at its root.");
        each("the root alone", with("A:"), VALUE, 1, 1, 1, 1);
        each("the root of a chain", say(with("A:B", "B:C", "C:h"), "h"), VALUE, 1 + 2 + 11, 14, 14, 14);
        promise(28, "Returns the value.");
        Grammarsmith list = with("A:aA|b");
        int due = 4;
        for (int length = 1; length <= 12; length++) {
            String sentence = "a".repeat(length - 1) + "b";
            each("value of " + sentence, say(list, sentence), VALUE, due, due, due, due);
            due = (1 + 1 + 2 * due) % 1009;
        }
        each("the first sentence again", say(list, "b"), VALUE, 4, 4, 4, 4);
        promise(28, "- `kind`: PREDICTIVE to WHOLE");
        within("kind", () -> say(with("A:aA|b"), "ab"), VALUE, 3, INDEX);
        promise(28, "Throws `IndexOutOfBoundsException` if there is no such kind");
        for (int odd : new int[] {-1, 4}) {
            refusedWithout("kind " + odd, RICH, o -> o.value(odd), INDEX);
            refusedWithout("kind in the grammar 1 " + odd, RICH_IN_OTHER, o -> o.value(odd), INDEX);
        }
    }

    private static void notAccepted(String what, Maker maker, int kind) {
        refusedWithout(what + ", kind " + kind, maker, o -> o.value(kind), STATE);
    }

    private static void valueThrows() {
        promise(28, "Throws `IllegalStateException` if it is not accepted");
        Maker wrongAtFirst = () -> say(with("A:aA|b"), "ca");
        Maker wrongAtTheEnd = () -> say(with("A:aA|b"), "aaaaaaaaaaaa");
        Maker wrongBehind = () -> say(with("A:aA|b"), "bb");
        Maker stuck = () -> from(F, counted("C"));
        Maker noRules = () -> new Grammarsmith();
        for (int kind = PREDICTIVE; kind <= WHOLE; kind++) {
            notAccepted("wrong at the first terminal", wrongAtFirst, kind);
            notAccepted("wrong at the end", wrongAtTheEnd, kind);
            notAccepted("wrong behind it", wrongBehind, kind);
            notAccepted("stuck", stuck, kind);
            notAccepted("no rules", noRules, kind);
        }
        Maker large = () -> {
            Grammarsmith x = broad();
            enter(x, "A:g");
            return say(x, "g");
        };
        for (int kind = SIMPLE; kind <= WHOLE; kind++) {
            notAccepted("too large", large, kind);
        }
        due("accepted by another kind", large.make(), o -> o.value(PREDICTIVE), 19 + 7);
    }

    // ---- promises 29 and 30

    /** So many readings of ab as there are productions of B times those of C, and those of A itself. */
    private static Grammarsmith product(int ofB, int ofC, int ofA) {
        Grammarsmith x = with("B:a" + "|a".repeat(ofB - 1), "C:b" + "|b".repeat(ofC - 1), "A:BC");
        if (ofA > 0) {
            enter(x, "A:ab" + "|ab".repeat(ofA - 1));
        }
        return say(x, "ab");
    }

    private static void readings() {
        promise(29, "Returns how many readings the sentence has, 100 if there are so many or more.");
        due("none", say(with("A:a"), "b"), Grammarsmith::readings, 0);
        due("one", say(with("A:a"), "a"), Grammarsmith::readings, 1);
        due("98", say(with("B:a|a|a|a|a|a|a", "C:b|b", "A:BBC"), "aab"), Grammarsmith::readings, 98);
        due("99", product(9, 11, 0), Grammarsmith::readings, 99);
        due("100, a product", product(10, 10, 0), Grammarsmith::readings, 100);
        due("100, a sum", product(9, 11, 1), Grammarsmith::readings, 100);
        due("101", product(9, 11, 2), Grammarsmith::readings, 100);
        due("101, by 100 and 1", product(10, 10, 1), Grammarsmith::readings, 100);
        due("110", product(10, 11, 0), Grammarsmith::readings, 100);
        due("without end", say(with("A:A|a"), "a"), Grammarsmith::readings, 100);
        due("none of what has no end", say(with("A:A|a"), "b"), Grammarsmith::readings, 0);
        due("without end, by one that has no terminals", with("A:AB|", "B:"), Grammarsmith::readings, 100);
        due("itself ahead of one terminal", say(with("A:Aa|"), "aa"), Grammarsmith::readings, 1);
        String[] powers = {"H:|", "G:HHHHH", "F:GGGGG", "E:FGHH", "D:EE", "C:EEA"};
        due("2 to the power of 5", from(G, with(powers)), Grammarsmith::readings, 32);
        due("2 to the power of 25", from(F, with(powers)), Grammarsmith::readings, 100);
        due("2 to the power of 32", from(E, with(powers)), Grammarsmith::readings, 100);
        due("2 to the power of 64", from(D, with(powers)), Grammarsmith::readings, 100);
        due("2 to the power of 64, and none of a part", from(C, with(powers)), Grammarsmith::readings, 0);
        due("of twelve terminals", say(with("A:aA|"), "aaaaaaaaaaaa"), Grammarsmith::readings, 1);
        due("of twelve terminals, the last is wrong", say(with("A:aA|"), "aaaaaaaaaaab"), Grammarsmith::readings, 0);
        due("of twelve terminals with nothing ahead and behind", aroundTwelve("bbbbbbbbbbbb"), Grammarsmith::readings, 1);
        due("the first of twelve by itself", aroundTwelve("abbbbbbbbbbb"), Grammarsmith::readings, 1);
        due("the last of twelve by itself", aroundTwelve("bbbbbbbbbbba"), Grammarsmith::readings, 1);
        due("both of twelve by themselves", aroundTwelve("abbbbbbbbbba"), Grammarsmith::readings, 1);
        due("the last but one of twelve is wrong", aroundTwelve("abbbbbbbbbaa"), Grammarsmith::readings, 0);
        due("by the production 23", from(B, say(with(bars(23), "B:abcde"), "abcde")), Grammarsmith::readings, 1);
        due("by the production 23", from(B, say(with(bars(23), "B:bAAAA"), "b")), Grammarsmith::readings, 100);
        due("by the production 23", from(B, say(with(bars(23), "B:bAccc"), "bccc")), Grammarsmith::readings, 23);
        due("of no terminals", with("A:|"), Grammarsmith::readings, 2);
        due("of no rules", new Grammarsmith(), Grammarsmith::readings, 0);
    }

    /** All sixteen nonterminals derive each other; each derives a, and hh. */
    private static void readingsAndRepairsInTurn() {
        says("Readings and repairs", "The readings of a sentence are the trees by which it is derived from the start, "
                + "whatever tables are. The least repair is the fewest edits", 29, 30);
        Grammarsmith x = with("A:B", "B:C", "C:D", "D:E", "E:F", "F:G", "G:H", "H:((((((((A|a|hh))))))))");
        for (int start = A; start <= H; start++) {
            x.start(start);
            for (int round = 0; round < 2; round++) {
                due("readings of b", say(x, "b"), Grammarsmith::readings, 0);
                due("repair of b", x, Grammarsmith::repair, 1);
                due("repair of bb", say(x, "bb"), Grammarsmith::repair, 2);
                due("readings of bb", x, Grammarsmith::readings, 0);
                due("readings of a", say(x, "a"), Grammarsmith::readings, 100);
                due("repair of a", x, Grammarsmith::repair, 0);
            }
        }
    }

    /** An a or nothing by all helpers, some b, and an a or nothing by all helpers. */
    private static Grammarsmith aroundTwelve(String sentence) {
        return say(with("C:((((((((a|))))))))", "A:CBC", "B:bB|b"), sentence);
    }

    private static void repair() {
        promise(30, "Returns the least repair of the sentence, 99 if it is more; NONE if no sentence is derived from the "
                + "start.");
        due("none", say(longer("a"), ""), Grammarsmith::repair, 98);
        due("99", say(longer("D"), ""), Grammarsmith::repair, 99);
        due("100", say(longer("C"), ""), Grammarsmith::repair, 99);
        due("101", say(longer("B"), ""), Grammarsmith::repair, 99);
        due("101, one of them is there", say(longer("B"), "b"), Grammarsmith::repair, 99);
        due("101, two of them are there", say(longer("B"), "aa"), Grammarsmith::repair, 99);
        due("101, three of them are there", say(longer("B"), "aaa"), Grammarsmith::repair, 98);
        due("twelve to be taken out", say(with("A:"), "abcdefghabcd"), Grammarsmith::repair, 12);
        due("twelve to be replaced", say(with("A:BBB", "B:hhhh"), "aaaaaaaaaaaa"), Grammarsmith::repair, 12);
        due("none of twelve", say(with("A:BBB", "B:hhhh"), "hhhhhhhhhhhh"), Grammarsmith::repair, 0);
        due("twelve with nothing ahead and behind", aroundTwelve("bbbbbbbbbbbb"), Grammarsmith::repair, 0);
        due("the first and the last of twelve", aroundTwelve("abbbbbbbbbba"), Grammarsmith::repair, 0);
        due("the last but one of twelve", aroundTwelve("abbbbbbbbbaa"), Grammarsmith::repair, 1);
        due("the first of twelve", aroundTwelve("hbbbbbbbbbba"), Grammarsmith::repair, 1);
        due("the last of twelve", aroundTwelve("abbbbbbbbbbh"), Grammarsmith::repair, 1);
        due("by the production 23", from(B, say(with(bars(23), "B:abcde"), "abcd")), Grammarsmith::repair, 1);
        due("by the production 23", from(B, say(with(bars(23), "B:bAAAA"), "bb")), Grammarsmith::repair, 1);
        due("no terminals", with("A:"), Grammarsmith::repair, 0);
        due("no terminals, none derived", new Grammarsmith(), Grammarsmith::repair, NONE);
        due("none derived", say(with("A:aA|B"), "a"), Grammarsmith::repair, NONE);
        due("none derived from the start", from(B, say(with("A:a", "B:bB"), "a")), Grammarsmith::repair, NONE);
        due("derived from the start", from(B, say(with("A:aA", "B:b"), "a")), Grammarsmith::repair, 1);
        Grammarsmith far = with("A:BBBBB", "B:CCCCC", "C:DDDDD", "D:EEEEE", "E:FFFFF", "F:GGGGG", "G:HHHHH", "H:aaaaa");
        due("390625 terminals", far, Grammarsmith::repair, 99);
    }
}
