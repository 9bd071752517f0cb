import java.util.Arrays;

/**
 * A parser generator: rules typed with choices, options, repetitions and separated lists become the
 * productions of two grammars, of which one is in use; what is found of them, their tables, the
 * parsers that run these, the readings of a sentence and its least repair are asked.
 */
public final class Grammarsmith {
    public static final int NONE = -1;
    public static final int TOO_LARGE = -2, STUCK = -3;
    public static final int PREDICTIVE = 0, SIMPLE = 1, MERGED = 2, WHOLE = 3;
    public static final int LEFT = 0, RIGHT = 1, NEITHER = 2;

    private static final int TERMINALS = 8;
    private static final int END = 8;
    private static final int LOOKS = 9;
    private static final int NAMED = 8;
    private static final int NONTERMINALS = 16;
    /** What is added to a nonterminal where it stands among symbols. */
    private static final int NONTERMINAL = 16;
    private static final int SYMBOLS = NONTERMINAL + NONTERMINALS;

    private static final int MOST_LETTERS = 24;
    private static final int MOST_PRODUCTIONS = 24;
    private static final int MOST_SYMBOLS = 5;
    private static final int MOST_STATES = 80;
    private static final int MOST_STEPS = 300;
    private static final int MOST_TERMINALS = 12;
    private static final int MOST_READINGS = 100;
    private static final int MOST_SPELLED = 20;
    private static final int MOST_LENGTH = 99;
    private static final int HIGHEST_LEVEL = 5;
    private static final int MODULUS = 1009;

    /** The one more production, which has the start alone on its right. */
    private static final int ROOT = MOST_PRODUCTIONS;
    private static final int PLACES = MOST_SYMBOLS + 1;
    private static final int ITEMS = (MOST_PRODUCTIONS + 1) * PLACES;
    private static final int CUTS = MOST_TERMINALS + 1;
    private static final int SPANS = CUTS * CUTS;

    private static final int FIRSTS = (1 << TERMINALS) - 1;
    private static final int BEHIND = (1 << LOOKS) - 1;
    /** Beside firsts: all of what they are the firsts of is nullable. */
    private static final int VANISHES = 1 << LOOKS;
    /** Beside what is behind an item: the item is there, even if nothing is behind it. */
    private static final int PRESENT = 1 << LOOKS;

    /** Far above the rounds in which any of the sets here can still grow. */
    private static final int ROUNDS = 1000000;

    private final RuleText text = new RuleText();
    private Grammar inUse;
    private Grammar other;
    private int numberInUse;
    private final int[] levels;
    private final int[] sides;
    /** The terminals of the sentence, and the end behind them. */
    private final int[] sentence;
    private int sentenceLength;
    private final Facts facts;
    private final Automaton mergedStates;
    private final Automaton wholeStates;
    private final Table predictive;
    private final Table simple;
    private final Table merged;
    private final Table whole;
    private final Chart counting;
    private final Chart repairing;

    /** Creates two grammars without rules, without levels, with an empty sentence. */
    public Grammarsmith() {
        Grammar first = new Grammar();
        int[] noLevels = new int[TERMINALS];
        int[] noSides = new int[TERMINALS];
        int[] empty = new int[CUTS];
        Arrays.fill(empty, END);
        Facts found = new Facts(first);
        Automaton coarse = new Automaton(found, true);
        Automaton fine = new Automaton(found, false);
        int[] wholes = new int[NONTERMINALS * SPANS];
        int[] parts = new int[ITEMS * SPANS];
        inUse = first;
        other = new Grammar();
        levels = noLevels;
        sides = noSides;
        sentence = empty;
        facts = found;
        mergedStates = coarse;
        wholeStates = fine;
        predictive = new PredictiveTable(found, empty);
        simple = new StateTable(coarse, true, noLevels, noSides, empty);
        merged = new StateTable(coarse, false, noLevels, noSides, empty);
        whole = new StateTable(fine, false, noLevels, noSides, empty);
        counting = new CountingChart(found, empty, wholes, parts);
        repairing = new RepairingChart(found, empty, wholes, parts);
    }

    // ---- rules

    public int type(char letter) throws IllegalArgumentException, IllegalStateException {
        if (!isLetter(letter)) {
            throw new IllegalArgumentException("no letter of a rule");
        }
        if (text.isFull()) {
            throw new IllegalStateException("the text has 24 letters");
        }
        return text.append(letter);
    }

    public int wipe() {
        return text.clear();
    }

    public int fault() {
        return text.firstFault();
    }

    public int enter() throws IllegalArgumentException, IllegalStateException {
        if (text.firstFault() != NONE) {
            throw new IllegalArgumentException("the text is no rule");
        }
        if (!inUse.admit(text)) {
            throw new IllegalStateException("the grammar has no room for the rule");
        }
        forget();
        return inUse.count();
    }

    public int undo() throws IllegalStateException {
        if (!inUse.dropLastRule()) {
            throw new IllegalStateException("there is no rule");
        }
        forget();
        return inUse.count();
    }

    public int use(int grammar) throws IndexOutOfBoundsException {
        if (grammar < 0 || grammar > 1) {
            throw new IndexOutOfBoundsException("no such grammar");
        }
        int before = numberInUse;
        if (grammar != before) {
            Grammar leaving = inUse;
            inUse = other;
            other = leaving;
            numberInUse = grammar;
            forget();
        }
        return before;
    }

    public int bring(int shift) throws IllegalArgumentException, IllegalStateException {
        if (shift < 0 || shift >= NAMED) {
            throw new IllegalArgumentException("no such shift");
        }
        if (!inUse.admitAll(other, shift)) {
            throw new IllegalStateException("the grammar has no room for the rules");
        }
        forget();
        return other.rules();
    }

    public int start(int nonterminal) throws IndexOutOfBoundsException {
        if (nonterminal < 0 || nonterminal >= NAMED) {
            throw new IndexOutOfBoundsException("no such nonterminal");
        }
        int before = inUse.top();
        inUse.setTop(nonterminal);
        forget();
        return before;
    }

    public int level(int terminal, int level, int side)
            throws IndexOutOfBoundsException, IllegalArgumentException {
        if (!isTerminal(terminal) || side < LEFT || side > NEITHER) {
            throw new IndexOutOfBoundsException("no such terminal or side");
        }
        if (level < 0 || level > HIGHEST_LEVEL) {
            throw new IllegalArgumentException("no such level");
        }
        int before = levels[terminal];
        levels[terminal] = level;
        sides[terminal] = side;
        return before;
    }

    public int productions() {
        return inUse.count();
    }

    public int left(int production) throws IndexOutOfBoundsException {
        if (production < 0 || production >= inUse.count()) {
            throw new IndexOutOfBoundsException("no such production");
        }
        return inUse.owner(production);
    }

    public int right(int production, int place) throws IndexOutOfBoundsException {
        if (production < 0 || production >= inUse.count() || place < 0 || place >= MOST_SYMBOLS) {
            throw new IndexOutOfBoundsException("no such production or place");
        }
        return inUse.symbol(production, place);
    }

    // ---- what is found; all of these for nonterminals without productions, too

    public boolean isNullable(int nonterminal) throws IndexOutOfBoundsException {
        requireNonterminal(nonterminal);
        facts.learn();
        return facts.vanishes(nonterminal);
    }

    public int first(int nonterminal) throws IndexOutOfBoundsException {
        requireNonterminal(nonterminal);
        facts.learn();
        return facts.firsts(nonterminal);
    }

    public int follow(int nonterminal) throws IndexOutOfBoundsException {
        requireNonterminal(nonterminal);
        facts.learn();
        return facts.behind(nonterminal);
    }

    public int uses(int nonterminal) throws IndexOutOfBoundsException {
        requireNonterminal(nonterminal);
        facts.learn();
        return (facts.isProductive(nonterminal) ? 1 : 0) + (facts.isReached(nonterminal) ? 2 : 0);
    }

    public boolean isLeftRecursive(int nonterminal) throws IndexOutOfBoundsException {
        requireNonterminal(nonterminal);
        facts.learn();
        return facts.beginsItself(nonterminal);
    }

    public int shortest(int nonterminal) throws IndexOutOfBoundsException {
        requireNonterminal(nonterminal);
        facts.learn();
        return facts.least(nonterminal);
    }

    public int sentence(int nonterminal, int place) throws IndexOutOfBoundsException, IllegalStateException {
        requireNonterminal(nonterminal);
        if (place < 0) {
            throw new IndexOutOfBoundsException("no such place");
        }
        facts.learn();
        int length = facts.least(nonterminal);
        if (length == NONE || length > MOST_SPELLED || place >= length) {
            throw new IllegalStateException("no terminal is there");
        }
        return facts.spelled(nonterminal, place);
    }

    // ---- tables

    public int size(int kind) throws IndexOutOfBoundsException {
        requireKind(kind);
        return table(kind).extent();
    }

    public int conflicts(int kind) throws IndexOutOfBoundsException {
        requireKind(kind);
        return table(kind).clashes();
    }

    public int settled(int kind) throws IndexOutOfBoundsException {
        requireKind(kind);
        return table(kind).easedClashes();
    }

    public int chosen() {
        for (int kind = PREDICTIVE; kind <= WHOLE; kind++) {
            Table table = table(kind);
            if (table.extent() != TOO_LARGE && table.clashes() == table.easedClashes()) {
                return kind;
            }
        }
        return NONE;
    }

    // ---- the sentence

    public int put(int place, int terminal) throws IndexOutOfBoundsException, IllegalStateException {
        if (place < 0 || place > sentenceLength || !isTerminal(terminal)) {
            throw new IndexOutOfBoundsException("no such place or terminal");
        }
        if (sentenceLength >= MOST_TERMINALS) {
            throw new IllegalStateException("the sentence has 12 terminals");
        }
        for (int k = sentenceLength; k > place; k--) {
            sentence[k] = sentence[k - 1];
        }
        sentence[place] = terminal;
        sentenceLength++;
        return sentenceLength;
    }

    public int cut(int place) throws IndexOutOfBoundsException {
        if (place < 0 || place >= sentenceLength) {
            throw new IndexOutOfBoundsException("no such place");
        }
        int terminal = sentence[place];
        for (int k = place; k + 1 < CUTS; k++) {
            sentence[k] = sentence[k + 1];
        }
        sentenceLength--;
        return terminal;
    }

    public int parse(int kind) throws IndexOutOfBoundsException {
        requireKind(kind);
        return table(kind).run();
    }

    public int value(int kind) throws IndexOutOfBoundsException, IllegalStateException {
        requireKind(kind);
        Table table = table(kind);
        if (table.run() != NONE) {
            throw new IllegalStateException("the sentence is not accepted");
        }
        return table.worth();
    }

    public int readings() {
        facts.learn();
        return counting.measure(sentenceLength);
    }

    public int repair() {
        facts.learn();
        if (!facts.isProductive(inUse.top())) {
            return NONE;
        }
        return repairing.measure(sentenceLength);
    }

    // ---- what the calls share

    /** What was found and built is of a grammar that is no longer the one in use, or as it was. */
    private void forget() {
        facts.forget(inUse);
        mergedStates.forget();
        wholeStates.forget();
    }

    private Table table(int kind) {
        facts.learn();
        if (kind == PREDICTIVE) {
            return predictive;
        }
        if (kind == WHOLE) {
            wholeStates.build();
            return whole;
        }
        mergedStates.build();
        return kind == SIMPLE ? simple : merged;
    }

    private static void requireNonterminal(int nonterminal) {
        if (nonterminal < 0 || nonterminal >= NONTERMINALS) {
            throw new IndexOutOfBoundsException("no such nonterminal");
        }
    }

    private static void requireKind(int kind) {
        if (kind < PREDICTIVE || kind > WHOLE) {
            throw new IndexOutOfBoundsException("no such kind");
        }
    }

    private static boolean isTerminal(int symbol) {
        return symbol >= 0 && symbol < TERMINALS;
    }

    private static boolean isNonterminal(int symbol) {
        return symbol >= NONTERMINAL && symbol < NONTERMINAL + NONTERMINALS;
    }

    private static boolean isTerminalLetter(char letter) {
        return letter >= 'a' && letter <= 'h';
    }

    private static boolean isNonterminalLetter(char letter) {
        return letter >= 'A' && letter <= 'H';
    }

    private static boolean isRepeat(char letter) {
        return letter == '?' || letter == '*' || letter == '+';
    }

    private static boolean isLetter(char letter) {
        return isTerminalLetter(letter) || isNonterminalLetter(letter) || isRepeat(letter)
                || letter == ':' || letter == '|' || letter == '(' || letter == ')' || letter == '%';
    }

    private static boolean has(int set, int member) {
        return (set >> member & 1) != 0;
    }

    /** What comes behind something, of which the beginnings come next, and then what is behind it all. */
    private static int behindOf(int beginnings, int behindAll) {
        int firsts = beginnings & FIRSTS;
        return (beginnings & VANISHES) != 0 ? firsts | behindAll : firsts;
    }

    private static int lookAt(int[] sentence, int place) {
        return place >= 0 && place < sentence.length ? sentence[place] : END;
    }

    /** The text of a rule, or of what is to become one. */
    private static final class RuleText {
        private static final int NAME = 0, COLON = 1, FREE = 2, PART = 3, SEPARATOR = 4, WRONG = 5;

        private final char[] letters = new char[MOST_LETTERS];
        private int length;

        boolean isFull() {
            return length >= letters.length;
        }

        int append(char letter) {
            if (length >= 0 && length < letters.length) {
                letters[length] = letter;
                length++;
            }
            return length;
        }

        int clear() {
            int before = length;
            length = 0;
            return before;
        }

        int length() {
            return length;
        }

        char letter(int place) {
            return place >= 0 && place < letters.length ? letters[place] : ' ';
        }

        void copyRenamed(RuleText from, int shift) {
            length = 0;
            for (int place = 0; place < from.length; place++) {
                char letter = from.letter(place);
                if (isNonterminalLetter(letter)) {
                    append((char) ('A' + (letter - 'A' + shift) % NAMED));
                } else {
                    append(letter);
                }
            }
        }

        int firstFault() {
            int state = NAME;
            int depth = 0;
            for (int place = 0; place < length; place++) {
                char letter = letter(place);
                state = stateBehind(state, letter, depth);
                if (state == WRONG) {
                    return place;
                }
                if (letter == '(') {
                    depth++;
                } else if (letter == ')') {
                    depth--;
                }
            }
            boolean whole = depth == 0 && (state == FREE || state == PART);
            return whole ? NONE : length;
        }

        private static int stateBehind(int state, char letter, int depth) {
            switch (state) {
                case NAME:
                    return isNonterminalLetter(letter) ? COLON : WRONG;
                case COLON:
                    return letter == ':' ? FREE : WRONG;
                case SEPARATOR:
                    return isTerminalLetter(letter) ? FREE : WRONG;
                default:
                    return stateInChoice(state, letter, depth);
            }
        }

        private static int stateInChoice(int state, char letter, int depth) {
            if (isTerminalLetter(letter) || isNonterminalLetter(letter)) {
                return PART;
            }
            if (letter == '(' || letter == '|') {
                return FREE;
            }
            if (letter == ')') {
                return depth > 0 ? PART : WRONG;
            }
            if (state != PART) {
                return WRONG;
            }
            if (letter == '%') {
                return SEPARATOR;
            }
            return isRepeat(letter) ? FREE : WRONG;
        }
    }

    /** The rules of one grammar, and the productions that they became. */
    private static final class Grammar {
        private final int[] owners = new int[MOST_PRODUCTIONS];
        private final int[] symbols = new int[MOST_PRODUCTIONS * MOST_SYMBOLS];
        private final int[] lengths = new int[MOST_PRODUCTIONS];
        private int count;
        private final RuleText[] texts = new RuleText[MOST_PRODUCTIONS];
        private final int[] countsBefore = new int[MOST_PRODUCTIONS];
        private int rules;
        private int top;
        private final RuleText renamed = new RuleText();
        private final RuleReader reader = new RuleReader();

        Grammar() {
            for (int rule = 0; rule < texts.length; rule++) {
                texts[rule] = new RuleText();
            }
        }

        int count() {
            return count;
        }

        int rules() {
            return rules;
        }

        int top() {
            return top;
        }

        void setTop(int nonterminal) {
            top = nonterminal;
        }

        int owner(int production) {
            return production >= 0 && production < count ? owners[production] : NONE;
        }

        int length(int production) {
            return production >= 0 && production < count ? lengths[production] : 0;
        }

        int symbol(int production, int place) {
            boolean there = production >= 0 && production < count && place >= 0 && place < lengths[production];
            return there ? symbols[production * MOST_SYMBOLS + place] : NONE;
        }

        int lastTerminal(int production) {
            for (int place = length(production) - 1; place >= 0; place--) {
                if (isTerminal(symbol(production, place))) {
                    return symbol(production, place);
                }
            }
            return NONE;
        }

        /** Begins a production without symbols; tells whether there was room. */
        boolean open(int owner) {
            if (count < 0 || count >= MOST_PRODUCTIONS || owner < 0 || owner >= NONTERMINALS) {
                return false;
            }
            owners[count] = owner;
            lengths[count] = 0;
            count++;
            return true;
        }

        /** Puts a symbol behind the last production; tells whether there was room. */
        boolean extend(int symbol) {
            int last = count - 1;
            if (last < 0 || last >= MOST_PRODUCTIONS || lengths[last] >= MOST_SYMBOLS) {
                return false;
            }
            symbols[last * MOST_SYMBOLS + lengths[last]] = symbol;
            lengths[last]++;
            return true;
        }

        int freeHelper() {
            int taken = 0;
            for (int production = 0; production < count; production++) {
                taken |= 1 << owner(production);
                for (int place = 0; place < length(production); place++) {
                    int symbol = symbol(production, place);
                    if (isNonterminal(symbol)) {
                        taken |= 1 << symbol - NONTERMINAL;
                    }
                }
            }
            for (int helper = NAMED; helper < NONTERMINALS; helper++) {
                if (!has(taken, helper)) {
                    return helper;
                }
            }
            return NONE;
        }

        /** Makes a rule's productions, or leaves all as it was and tells that there was no room. */
        boolean admit(RuleText text) {
            int before = count;
            RuleText kept = rules >= 0 && rules < MOST_PRODUCTIONS ? texts[rules] : null;
            if (kept == null || !reader.read(text, this)) {
                count = before;
                return false;
            }
            kept.copyRenamed(text, 0);
            countsBefore[rules] = before;
            rules++;
            return true;
        }

        /** Admits all rules of another grammar with other names, or none of them. */
        boolean admitAll(Grammar from, int shift) {
            int countBefore = count;
            int rulesBefore = rules;
            for (int rule = 0; rule < from.rules && rule < MOST_PRODUCTIONS; rule++) {
                RuleText source = from.texts[rule];
                if (source != null) {
                    renamed.copyRenamed(source, shift);
                }
                if (source == null || !admit(renamed)) {
                    count = countBefore;
                    rules = rulesBefore;
                    return false;
                }
            }
            return true;
        }

        boolean dropLastRule() {
            if (rules <= 0 || rules > MOST_PRODUCTIONS) {
                return false;
            }
            rules--;
            count = countsBefore[rules];
            return true;
        }
    }

    /** Turns the text of a rule into productions, from the left to the right. */
    private static final class RuleReader {
        private static final int BAR = -1, BRACKET = -2;

        /** The symbols read, with bars and open brackets, that are in no production yet. */
        private final int[] open = new int[MOST_LETTERS];
        private int height;

        boolean read(RuleText text, Grammar grammar) {
            height = 0;
            boolean separates = false;
            boolean fits = true;
            for (int place = 2; place < text.length() && fits; place++) {
                char letter = text.letter(place);
                if (separates) {
                    fits = wrap(grammar, '%', letter - 'a');
                } else if (isTerminalLetter(letter)) {
                    fits = push(letter - 'a');
                } else if (isNonterminalLetter(letter)) {
                    fits = push(NONTERMINAL + letter - 'A');
                } else if (letter == '|') {
                    fits = push(BAR);
                } else if (letter == '(') {
                    fits = push(BRACKET);
                } else if (letter == ')') {
                    fits = closeBracket(grammar);
                } else if (isRepeat(letter)) {
                    fits = wrap(grammar, letter, NONE);
                }
                separates = letter == '%';
            }
            return fits && release(grammar, text.letter(0) - 'A', 0);
        }

        private boolean push(int entry) {
            if (height < 0 || height >= open.length) {
                return false;
            }
            open[height] = entry;
            height++;
            return true;
        }

        private boolean closeBracket(Grammar grammar) {
            int bracket = NONE;
            for (int k = 0; k < height && k < open.length; k++) {
                if (open[k] == BRACKET) {
                    bracket = k;
                }
            }
            int helper = grammar.freeHelper();
            if (bracket == NONE || helper == NONE || !release(grammar, helper, bracket + 1)) {
                return false;
            }
            height = bracket;
            return push(NONTERMINAL + helper);
        }

        /** Makes a production for each of the sequences from a place on. */
        private boolean release(Grammar grammar, int owner, int from) {
            boolean fits = grammar.open(owner);
            for (int k = from; k < height && k < open.length && fits; k++) {
                fits = open[k] == BAR ? grammar.open(owner) : grammar.extend(open[k]);
            }
            return fits;
        }

        /** Puts a helper in the place of the last part and the sign behind it. */
        private boolean wrap(Grammar grammar, char sign, int separator) {
            int helper = grammar.freeHelper();
            if (height <= 0 || height > open.length || helper == NONE) {
                return false;
            }
            int part = open[height - 1];
            boolean fits = grammar.open(helper);
            if (sign == '+' || sign == '%') {
                fits = fits && grammar.extend(part);
            }
            fits = fits && grammar.open(helper);
            if (sign != '?') {
                fits = fits && grammar.extend(NONTERMINAL + helper);
            }
            if (sign == '%') {
                fits = fits && grammar.extend(separator);
            }
            open[height - 1] = NONTERMINAL + helper;
            return fits && grammar.extend(part);
        }
    }

    /** What is found of the grammar in use. */
    private static final class Facts {
        private Grammar grammar;
        private boolean known;
        private int reached;
        private int leftRecursive;
        private int circular;
        /** For each symbol its firsts, and VANISHES for a nullable one. */
        private final int[] begins = new int[SYMBOLS];
        private final int[] behinds = new int[NONTERMINALS];
        private final int[] predictions = new int[MOST_PRODUCTIONS];
        /** For each symbol the length of the shortest sentence. */
        private final int[] leasts = new int[SYMBOLS];
        /** Shortest sentences, three bits for a terminal, so that numbers stand in the order of letters. */
        private final long[] spellings = new long[SYMBOLS];
        private int spelt;
        private final int[] relation = new int[NONTERMINALS];
        /** For each item the symbol in front of it, and the beginnings of what follows that symbol. */
        private final int[] fronts = new int[ITEMS];
        private final int[] rests = new int[ITEMS];

        Facts(Grammar grammar) {
            this.grammar = grammar;
        }

        void forget(Grammar nowInUse) {
            grammar = nowInUse;
            known = false;
        }

        void learn() {
            if (known) {
                return;
            }
            findBeginnings();
            findBehinds();
            findReached();
            findLeftRecursive();
            findCircular();
            findLeasts();
            findSpellings();
            findPredictions();
            findItems();
            known = true;
        }

        Grammar grammar() {
            return grammar;
        }

        boolean vanishes(int nonterminal) {
            return (beginOf(NONTERMINAL + nonterminal) & VANISHES) != 0;
        }

        int firsts(int nonterminal) {
            return beginOf(NONTERMINAL + nonterminal) & FIRSTS;
        }

        int behind(int nonterminal) {
            return nonterminal >= 0 && nonterminal < NONTERMINALS ? behinds[nonterminal] : 0;
        }

        boolean isProductive(int nonterminal) {
            return least(nonterminal) != NONE;
        }

        boolean isReached(int nonterminal) {
            return has(reached, nonterminal);
        }

        boolean beginsItself(int nonterminal) {
            return has(leftRecursive, nonterminal);
        }

        /** Tells whether a nonterminal derives itself alone: if it has a tree then, its trees have no end. */
        boolean isCircular(int nonterminal) {
            return has(circular, nonterminal);
        }

        int least(int nonterminal) {
            return leastOf(NONTERMINAL + nonterminal);
        }

        int spelled(int nonterminal, int place) {
            int behind = least(nonterminal) - 1 - place;
            if (nonterminal < 0 || nonterminal >= NONTERMINALS || behind < 0 || behind >= MOST_SPELLED) {
                return NONE;
            }
            return (int) (spellings[NONTERMINAL + nonterminal] >> 3 * behind) & TERMINALS - 1;
        }

        /** The terminals and the end for which a production is in the cells of its left. */
        int prediction(int production) {
            return production >= 0 && production < MOST_PRODUCTIONS ? predictions[production] : 0;
        }

        int front(int item) {
            return item >= 0 && item < ITEMS ? fronts[item] : NONE;
        }

        int rest(int item) {
            return item >= 0 && item < ITEMS ? rests[item] : 0;
        }

        private int beginOf(int symbol) {
            return symbol >= 0 && symbol < SYMBOLS ? begins[symbol] : 0;
        }

        private int leastOf(int symbol) {
            return symbol >= 0 && symbol < SYMBOLS ? leasts[symbol] : NONE;
        }

        /** The firsts of the right of a production from a place on, and VANISHES if all of it is nullable. */
        private int beginnings(int production, int from) {
            int firsts = 0;
            for (int place = from; place < grammar.length(production); place++) {
                int begin = beginOf(grammar.symbol(production, place));
                firsts |= begin & FIRSTS;
                if ((begin & VANISHES) == 0) {
                    return firsts;
                }
            }
            return firsts | VANISHES;
        }

        private static boolean widen(int[] sets, int index, int more) {
            if (index < 0 || index >= sets.length || (sets[index] | more) == sets[index]) {
                return false;
            }
            sets[index] |= more;
            return true;
        }

        private void findBeginnings() {
            Arrays.fill(begins, 0);
            for (int terminal = 0; terminal < TERMINALS; terminal++) {
                begins[terminal] = 1 << terminal;
            }
            boolean grows = true;
            for (int round = 0; round < ROUNDS && grows; round++) {
                grows = false;
                for (int production = 0; production < grammar.count(); production++) {
                    int owner = NONTERMINAL + grammar.owner(production);
                    grows |= widen(begins, owner, beginnings(production, 0));
                }
            }
        }

        private void findBehinds() {
            Arrays.fill(behinds, 0);
            widen(behinds, grammar.top(), 1 << END);
            boolean grows = true;
            for (int round = 0; round < ROUNDS && grows; round++) {
                grows = false;
                for (int production = 0; production < grammar.count(); production++) {
                    grows |= widenBehinds(production);
                }
            }
        }

        private boolean widenBehinds(int production) {
            boolean grows = false;
            for (int place = 0; place < grammar.length(production); place++) {
                int symbol = grammar.symbol(production, place);
                if (isNonterminal(symbol)) {
                    int next = beginnings(production, place + 1);
                    int more = behindOf(next, behind(grammar.owner(production)));
                    grows |= widen(behinds, symbol - NONTERMINAL, more);
                }
            }
            return grows;
        }

        private void findReached() {
            Arrays.fill(relation, 0);
            for (int production = 0; production < grammar.count(); production++) {
                for (int place = 0; place < grammar.length(production); place++) {
                    relate(production, place);
                }
            }
            closeRelation();
            int top = grammar.top();
            reached = 1 << top;
            if (top >= 0 && top < NONTERMINALS) {
                reached |= relation[top];
            }
        }

        private void findLeftRecursive() {
            Arrays.fill(relation, 0);
            for (int production = 0; production < grammar.count(); production++) {
                boolean leads = true;
                for (int place = 0; place < grammar.length(production) && leads; place++) {
                    relate(production, place);
                    leads = (beginOf(grammar.symbol(production, place)) & VANISHES) != 0;
                }
            }
            closeRelation();
            leftRecursive = relatedToThemselves();
        }

        private void findCircular() {
            Arrays.fill(relation, 0);
            for (int production = 0; production < grammar.count(); production++) {
                boolean leads = true;
                for (int place = 0; place < grammar.length(production) && leads; place++) {
                    if ((beginnings(production, place + 1) & VANISHES) != 0) {
                        relate(production, place);
                    }
                    leads = (beginOf(grammar.symbol(production, place)) & VANISHES) != 0;
                }
            }
            closeRelation();
            circular = relatedToThemselves();
        }

        private void relate(int production, int place) {
            int symbol = grammar.symbol(production, place);
            if (isNonterminal(symbol)) {
                widen(relation, grammar.owner(production), 1 << symbol - NONTERMINAL);
            }
        }

        private void closeRelation() {
            for (int by = 0; by < NONTERMINALS; by++) {
                for (int from = 0; from < NONTERMINALS; from++) {
                    if (has(relation[from], by)) {
                        relation[from] |= relation[by];
                    }
                }
            }
        }

        private int relatedToThemselves() {
            int set = 0;
            for (int nonterminal = 0; nonterminal < NONTERMINALS; nonterminal++) {
                set |= relation[nonterminal] & 1 << nonterminal;
            }
            return set;
        }

        private void findLeasts() {
            Arrays.fill(leasts, NONE);
            for (int terminal = 0; terminal < TERMINALS; terminal++) {
                leasts[terminal] = 1;
            }
            boolean shrinks = true;
            for (int round = 0; round < ROUNDS && shrinks; round++) {
                shrinks = false;
                for (int production = 0; production < grammar.count(); production++) {
                    int owner = NONTERMINAL + grammar.owner(production);
                    int length = leastOfRight(production);
                    boolean shorter = leastOf(owner) == NONE || length < leastOf(owner);
                    if (length != NONE && shorter && isNonterminal(owner)) {
                        leasts[owner] = length;
                        shrinks = true;
                    }
                }
            }
        }

        /** The length of the shortest row derived from a right, at most 99; NONE if there is none yet. */
        private int leastOfRight(int production) {
            int sum = 0;
            for (int place = 0; place < grammar.length(production); place++) {
                int length = leastOf(grammar.symbol(production, place));
                if (length == NONE) {
                    return NONE;
                }
                sum = Math.min(MOST_LENGTH, sum + length);
            }
            return sum;
        }

        private void findSpellings() {
            spelt = FIRSTS;
            for (int terminal = 0; terminal < TERMINALS; terminal++) {
                spellings[terminal] = terminal;
            }
            boolean improves = true;
            for (int round = 0; round < ROUNDS && improves; round++) {
                improves = false;
                for (int production = 0; production < grammar.count(); production++) {
                    improves |= improveSpelling(production);
                }
            }
        }

        private boolean improveSpelling(int production) {
            int owner = NONTERMINAL + grammar.owner(production);
            int length = leastOfRight(production);
            if (length == NONE || length > MOST_SPELLED || length != leastOf(owner) || !isNonterminal(owner)) {
                return false;
            }
            long spelling = spell(production);
            if (spelling == NONE || has(spelt, owner) && spelling >= spellings[owner]) {
                return false;
            }
            spellings[owner] = spelling;
            spelt |= 1 << owner;
            return true;
        }

        /** The first row of a right whose parts are spelt as they are by now; NONE if one is not yet. */
        private long spell(int production) {
            long spelling = 0;
            for (int place = 0; place < grammar.length(production); place++) {
                int symbol = grammar.symbol(production, place);
                if (symbol < 0 || symbol >= SYMBOLS || !has(spelt, symbol)) {
                    return NONE;
                }
                spelling = spelling << 3 * leasts[symbol] | spellings[symbol];
            }
            return spelling;
        }

        private void findPredictions() {
            for (int production = 0; production < MOST_PRODUCTIONS; production++) {
                int behind = behind(grammar.owner(production));
                predictions[production] = behindOf(beginnings(production, 0), behind);
            }
        }

        private void findItems() {
            Arrays.fill(fronts, NONE);
            Arrays.fill(rests, 0);
            for (int production = 0; production < MOST_PRODUCTIONS; production++) {
                for (int place = 0; place < MOST_SYMBOLS; place++) {
                    fronts[production * PLACES + place] = grammar.symbol(production, place);
                    rests[production * PLACES + place] = beginnings(production, place + 1);
                }
            }
            fronts[ROOT * PLACES] = NONTERMINAL + grammar.top();
            rests[ROOT * PLACES] = VANISHES;
        }
    }

    /** The states of a table, with what is behind their items. */
    private static final class Automaton {
        private final Facts facts;
        /** States with the same items are one, with all that is behind these. */
        private final boolean merges;
        private boolean built;
        private boolean tooLarge;
        private int states;
        private final int[] rows = new int[MOST_STATES * ITEMS];
        private final int[] moves = new int[MOST_STATES * SYMBOLS];
        /** The symbol over which one comes to a state; NONE for the first state. */
        private final int[] entries = new int[MOST_STATES];
        /** States from which the ways are not gone yet with all that is behind their items by now. */
        private final boolean[] waiting = new boolean[MOST_STATES];
        private final int[] fresh = new int[ITEMS];

        Automaton(Facts facts, boolean merges) {
            this.facts = facts;
            this.merges = merges;
        }

        Facts facts() {
            return facts;
        }

        void forget() {
            built = false;
        }

        /** How many states there are; TOO_LARGE. */
        int extent() {
            return tooLarge ? TOO_LARGE : states;
        }

        /** PRESENT and what is behind an item in a state; 0 if the item is not there. */
        int row(int state, int item) {
            boolean there = state >= 0 && state < MOST_STATES && item >= 0 && item < ITEMS;
            return there ? rows[state * ITEMS + item] : 0;
        }

        int move(int state, int symbol) {
            boolean there = state >= 0 && state < MOST_STATES && symbol >= 0 && symbol < SYMBOLS;
            return there ? moves[state * SYMBOLS + symbol] : NONE;
        }

        void build() {
            if (built) {
                return;
            }
            states = 0;
            tooLarge = false;
            Arrays.fill(fresh, 0);
            fresh[ROOT * PLACES] = PRESENT | 1 << END;
            addState(NONE);
            boolean grows = true;
            for (int round = 0; round < ROUNDS && grows && !tooLarge; round++) {
                grows = false;
                for (int state = 0; state < states && state < MOST_STATES && !tooLarge; state++) {
                    if (waiting[state]) {
                        waiting[state] = false;
                        complete(state);
                        leave(state);
                        grows = true;
                    }
                }
            }
            built = true;
        }

        private void complete(int state) {
            boolean grows = true;
            for (int round = 0; round < ROUNDS && grows; round++) {
                grows = false;
                for (int item = 0; item < ITEMS; item++) {
                    if (row(state, item) != 0 && isNonterminal(facts.front(item))) {
                        grows |= addItems(state, item);
                    }
                }
            }
        }

        /** Adds an item of each production of the nonterminal in front of an item. */
        private boolean addItems(int state, int item) {
            int behind = behindOf(facts.rest(item), row(state, item) & BEHIND);
            int nonterminal = facts.front(item) - NONTERMINAL;
            Grammar grammar = facts.grammar();
            boolean grows = false;
            for (int production = 0; production < grammar.count(); production++) {
                if (grammar.owner(production) == nonterminal) {
                    grows |= widen(state, production * PLACES, PRESENT | behind);
                }
            }
            return grows;
        }

        private boolean widen(int state, int item, int more) {
            if (state < 0 || state >= MOST_STATES || item < 0 || item >= ITEMS) {
                return false;
            }
            int old = rows[state * ITEMS + item];
            rows[state * ITEMS + item] = old | more;
            return (old | more) != old;
        }

        private void leave(int state) {
            int symbols = symbolsInFront(state);
            for (int symbol = 0; symbol < SYMBOLS && !tooLarge; symbol++) {
                if (has(symbols, symbol)) {
                    advance(state, symbol);
                }
            }
        }

        private int symbolsInFront(int state) {
            int symbols = 0;
            for (int item = 0; item < ITEMS; item++) {
                int symbol = facts.front(item);
                if (row(state, item) != 0 && symbol != NONE) {
                    symbols |= 1 << symbol;
                }
            }
            return symbols;
        }

        private void advance(int state, int symbol) {
            Arrays.fill(fresh, 0);
            for (int item = 0; item + 1 < ITEMS; item++) {
                if (facts.front(item) == symbol) {
                    fresh[item + 1] = row(state, item);
                }
            }
            int target = findState(symbol);
            if (target == NONE) {
                target = addState(symbol);
            } else if (merges) {
                mergeInto(target);
            }
            if (state >= 0 && state < MOST_STATES && symbol >= 0 && symbol < SYMBOLS) {
                moves[state * SYMBOLS + symbol] = target;
            }
        }

        private int findState(int symbol) {
            for (int state = 0; state < states && state < MOST_STATES; state++) {
                if (entries[state] == symbol && beginsFresh(state)) {
                    return state;
                }
            }
            return NONE;
        }

        /** Tells whether a state is the one that begins with the fresh items; all of these are past place 0. */
        private boolean beginsFresh(int state) {
            if (state < 0 || state >= MOST_STATES) {
                return false;
            }
            for (int item = 0; item < ITEMS; item++) {
                if (item % PLACES != 0) {
                    int old = rows[state * ITEMS + item];
                    boolean same = merges ? (old == 0) == (fresh[item] == 0) : old == fresh[item];
                    if (!same) {
                        return false;
                    }
                }
            }
            return true;
        }

        private int addState(int symbol) {
            if (states < 0 || states >= MOST_STATES) {
                tooLarge = true;
                return NONE;
            }
            int state = states;
            states++;
            for (int item = 0; item < ITEMS; item++) {
                rows[state * ITEMS + item] = fresh[item];
            }
            for (int over = 0; over < SYMBOLS; over++) {
                moves[state * SYMBOLS + over] = NONE;
            }
            entries[state] = symbol;
            waiting[state] = true;
            return state;
        }

        private void mergeInto(int state) {
            boolean grows = false;
            for (int item = 0; item < ITEMS; item++) {
                grows |= widen(state, item, fresh[item]);
            }
            if (grows && state >= 0 && state < MOST_STATES) {
                waiting[state] = true;
            }
        }
    }

    /** A table of one kind, with the parser that runs it. */
    private abstract static class Table {
        private int worth;

        abstract int extent();

        abstract int clashes();

        abstract int easedClashes();

        /** Parses the sentence, and keeps the value of the tree if it is accepted. */
        abstract int run();

        int worth() {
            return worth;
        }

        void keepWorth(int worth) {
            this.worth = worth;
        }
    }

    private static final class PredictiveTable extends Table {
        private final Facts facts;
        private final int[] sentence;
        /** What is to be derived, the next symbol last. */
        private final int[] stack = new int[1 + MOST_STEPS * MOST_SYMBOLS];
        private int height;
        private final int[] applied = new int[MOST_STEPS];
        private int applications;

        PredictiveTable(Facts facts, int[] sentence) {
            this.facts = facts;
            this.sentence = sentence;
        }

        int extent() {
            return cellsWith(1);
        }

        int clashes() {
            return cellsWith(2);
        }

        int easedClashes() {
            return 0;
        }

        int run() {
            height = 0;
            applications = 0;
            push(NONTERMINAL + facts.grammar().top());
            int place = 0;
            for (int step = 0; step <= MOST_STEPS; step++) {
                int look = lookAt(sentence, place);
                if (height == 0 && look == END) {
                    keepWorth(worthOfTree());
                    return NONE;
                }
                int symbol = next();
                int production = isNonterminal(symbol) ? lowestIn(symbol - NONTERMINAL, look) : NONE;
                boolean taken = isTerminal(symbol) && symbol == look;
                if (!taken && production == NONE) {
                    return place;
                }
                if (step < MOST_STEPS) {
                    pop();
                    apply(production);
                    place += taken ? 1 : 0;
                }
            }
            return STUCK;
        }

        private int cellsWith(int productions) {
            int cells = 0;
            for (int nonterminal = 0; nonterminal < NONTERMINALS; nonterminal++) {
                for (int look = 0; look < LOOKS; look++) {
                    if (countIn(nonterminal, look) >= productions) {
                        cells++;
                    }
                }
            }
            return cells;
        }

        private int countIn(int nonterminal, int look) {
            int count = 0;
            for (int production = 0; production < facts.grammar().count(); production++) {
                if (isIn(production, nonterminal, look)) {
                    count++;
                }
            }
            return count;
        }

        private int lowestIn(int nonterminal, int look) {
            for (int production = 0; production < facts.grammar().count(); production++) {
                if (isIn(production, nonterminal, look)) {
                    return production;
                }
            }
            return NONE;
        }

        private boolean isIn(int production, int nonterminal, int look) {
            return facts.grammar().owner(production) == nonterminal && has(facts.prediction(production), look);
        }

        private int next() {
            return height > 0 && height <= stack.length ? stack[height - 1] : NONE;
        }

        private void push(int entry) {
            if (height >= 0 && height < stack.length) {
                stack[height] = entry;
                height++;
            }
        }

        private int pop() {
            int entry = next();
            if (height > 0) {
                height--;
            }
            return entry;
        }

        /** Puts the right of a production on the stack; nothing for NONE. */
        private void apply(int production) {
            for (int place = facts.grammar().length(production) - 1; place >= 0; place--) {
                push(facts.grammar().symbol(production, place));
            }
            if (production != NONE && applications >= 0 && applications < applied.length) {
                applied[applications] = production;
                applications++;
            }
        }

        /** Back through the productions, the values of a production's parts lie in its order on the stack. */
        private int worthOfTree() {
            height = 0;
            for (int k = Math.min(applications, applied.length) - 1; k >= 0; k--) {
                int production = applied[k];
                int sum = production + 1;
                for (int place = 0; place < facts.grammar().length(production); place++) {
                    int symbol = facts.grammar().symbol(production, place);
                    int part = isTerminal(symbol) ? symbol + 1 : pop();
                    sum += (place + 1) * part;
                }
                push(sum % MODULUS);
            }
            return pop();
        }
    }

    private static final class StateTable extends Table {
        private static final int SHIFT = MOST_PRODUCTIONS, ACCEPT = MOST_PRODUCTIONS + 1;

        private final Automaton automaton;
        private final boolean looksBehindLefts;
        private final int[] levels;
        private final int[] sides;
        private final int[] sentence;
        /** Of the cell that was read last. */
        private boolean shifts;
        private boolean accepts;
        private int reductions;
        private int lowest;
        private final int[] stack = new int[MOST_STEPS + 1];
        private final int[] worths = new int[MOST_STEPS + 1];
        private int height;

        StateTable(Automaton automaton, boolean looksBehindLefts, int[] levels, int[] sides, int[] sentence) {
            this.automaton = automaton;
            this.looksBehindLefts = looksBehindLefts;
            this.levels = levels;
            this.sides = sides;
            this.sentence = sentence;
        }

        int extent() {
            return automaton.extent();
        }

        int clashes() {
            return cellsInConflict(false);
        }

        int easedClashes() {
            return cellsInConflict(true);
        }

        int run() {
            if (automaton.extent() == TOO_LARGE) {
                return TOO_LARGE;
            }
            height = 0;
            push(0, 0);
            int place = 0;
            for (int step = 0; step <= MOST_STEPS; step++) {
                int look = lookAt(sentence, place);
                int action = action(state(), look);
                if (action == ACCEPT) {
                    keepWorth(worthOfTop());
                    return NONE;
                }
                if (action == NONE) {
                    return place;
                }
                if (step < MOST_STEPS && action == SHIFT) {
                    push(automaton.move(state(), look), look + 1);
                    place++;
                } else if (step < MOST_STEPS) {
                    reduce(action);
                }
            }
            return STUCK;
        }

        private int cellsInConflict(boolean settledAlone) {
            if (automaton.extent() == TOO_LARGE) {
                return TOO_LARGE;
            }
            int cells = 0;
            for (int state = 0; state < automaton.extent(); state++) {
                for (int look = 0; look < LOOKS; look++) {
                    readCell(state, look);
                    if (isConflict() && (!settledAlone || isSettled(look))) {
                        cells++;
                    }
                }
            }
            return cells;
        }

        private void readCell(int state, int look) {
            Grammar grammar = automaton.facts().grammar();
            shifts = isTerminal(look) && automaton.move(state, look) != NONE;
            accepts = has(automaton.row(state, ROOT * PLACES + 1) & BEHIND, look);
            reductions = 0;
            lowest = NONE;
            for (int production = grammar.count() - 1; production >= 0; production--) {
                if (has(reducedBy(state, production), look)) {
                    reductions++;
                    lowest = production;
                }
            }
        }

        /** The terminals and the end for which a state reduces by a production. */
        private int reducedBy(int state, int production) {
            Grammar grammar = automaton.facts().grammar();
            int row = automaton.row(state, production * PLACES + grammar.length(production));
            if (row == 0) {
                return 0;
            }
            return looksBehindLefts ? automaton.facts().behind(grammar.owner(production)) : row & BEHIND;
        }

        private boolean isConflict() {
            return (shifts ? 1 : 0) + (accepts ? 1 : 0) + reductions > 1;
        }

        private boolean isSettled(int look) {
            return shifts && !accepts && reductions == 1 && levelOf(look) > 0 && levelOfLowest() > 0;
        }

        private int levelOf(int terminal) {
            return terminal >= 0 && terminal < levels.length ? levels[terminal] : 0;
        }

        private int levelOfLowest() {
            return levelOf(automaton.facts().grammar().lastTerminal(lowest));
        }

        private int action(int state, int look) {
            readCell(state, look);
            if (isSettled(look)) {
                return settledAction(look);
            }
            if (accepts) {
                return ACCEPT;
            }
            return shifts ? SHIFT : lowest;
        }

        private int settledAction(int look) {
            int over = levelOfLowest() - levelOf(look);
            if (over != 0) {
                return over > 0 ? lowest : SHIFT;
            }
            int side = look >= 0 && look < sides.length ? sides[look] : NEITHER;
            if (side == NEITHER) {
                return NONE;
            }
            return side == LEFT ? lowest : SHIFT;
        }

        private int state() {
            return height > 0 && height <= stack.length ? stack[height - 1] : NONE;
        }

        private int worthOfTop() {
            return height > 0 && height <= worths.length ? worths[height - 1] : 0;
        }

        private void push(int state, int worth) {
            if (height >= 0 && height < stack.length && height < worths.length) {
                stack[height] = state;
                worths[height] = worth;
                height++;
            }
        }

        private void reduce(int production) {
            Grammar grammar = automaton.facts().grammar();
            int sum = production + 1;
            for (int place = grammar.length(production) - 1; place >= 0; place--) {
                sum += (place + 1) * worthOfTop();
                height--;
            }
            push(automaton.move(state(), NONTERMINAL + grammar.owner(production)), sum % MODULUS);
        }
    }

    /** What all derivations of a stretch of the sentence come to, for every nonterminal and every stretch. */
    private abstract static class Chart {
        private final Facts facts;
        private final int[] sentence;
        private final int[] wholes;
        private final int[] parts;
        private final int[] sums = new int[NONTERMINALS];

        Chart(Facts facts, int[] sentence, int[] wholes, int[] parts) {
            this.facts = facts;
            this.sentence = sentence;
            this.wholes = wholes;
            this.parts = parts;
        }

        /** What no derivation at all comes to. */
        abstract int none();

        /** What an empty row comes to over a stretch. */
        abstract int blank(int from, int to);

        abstract int ofTerminal(int terminal, int from, int to);

        abstract int either(int one, int another);

        abstract int both(int one, int another);

        /** What a nonterminal comes to whose productions come to a sum together. */
        abstract int ofNonterminal(int nonterminal, int sum);

        Facts facts() {
            return facts;
        }

        int look(int place) {
            return place >= 0 && place < sentence.length ? sentence[place] : END;
        }

        /** What the start comes to over the whole sentence. */
        int measure(int length) {
            int last = Math.min(length, MOST_TERMINALS);
            for (int width = 0; width <= last; width++) {
                for (int from = 0; from + width <= last; from++) {
                    fill(from, from + width);
                }
            }
            return whole(facts.grammar().top(), 0, last);
        }

        /** All shorter stretches are filled; nonterminals over this very one wait for each other. */
        private void fill(int from, int to) {
            for (int nonterminal = 0; nonterminal < NONTERMINALS; nonterminal++) {
                setWhole(nonterminal, from, to, none());
            }
            boolean changes = true;
            for (int round = 0; round < ROUNDS && changes; round++) {
                changes = refine(from, to);
            }
        }

        private boolean refine(int from, int to) {
            Arrays.fill(sums, none());
            for (int production = 0; production < facts.grammar().count(); production++) {
                int owner = facts.grammar().owner(production);
                int what = ofProduction(production, from, to);
                if (owner >= 0 && owner < NONTERMINALS) {
                    sums[owner] = either(sums[owner], what);
                }
            }
            boolean changes = false;
            for (int nonterminal = 0; nonterminal < NONTERMINALS; nonterminal++) {
                int what = ofNonterminal(nonterminal, sums[nonterminal]);
                if (what != whole(nonterminal, from, to)) {
                    setWhole(nonterminal, from, to, what);
                    changes = true;
                }
            }
            return changes;
        }

        private int ofProduction(int production, int from, int to) {
            int item = production * PLACES;
            int what = blank(from, to);
            setPart(item, from, to, what);
            for (int place = 0; place < facts.grammar().length(production); place++) {
                int symbol = facts.grammar().symbol(production, place);
                what = none();
                for (int middle = from; middle <= to; middle++) {
                    int ahead = part(item + place, from, middle);
                    boolean ends = isTerminal(symbol);
                    int next = ends ? ofTerminal(symbol, middle, to) : whole(symbol - NONTERMINAL, middle, to);
                    what = either(what, both(ahead, next));
                }
                setPart(item + place + 1, from, to, what);
            }
            return what;
        }

        private int whole(int nonterminal, int from, int to) {
            int at = cell(nonterminal, from, to);
            return at >= 0 && at < wholes.length ? wholes[at] : none();
        }

        private void setWhole(int nonterminal, int from, int to, int what) {
            int at = cell(nonterminal, from, to);
            if (at >= 0 && at < wholes.length) {
                wholes[at] = what;
            }
        }

        private int part(int item, int from, int to) {
            int at = cell(item, from, to);
            return at >= 0 && at < parts.length ? parts[at] : none();
        }

        private void setPart(int item, int from, int to, int what) {
            int at = cell(item, from, to);
            if (at >= 0 && at < parts.length) {
                parts[at] = what;
            }
        }

        private static int cell(int row, int from, int to) {
            return row * SPANS + from * CUTS + to;
        }
    }

    /** Counts trees, up to 100. */
    private static final class CountingChart extends Chart {
        CountingChart(Facts facts, int[] sentence, int[] wholes, int[] parts) {
            super(facts, sentence, wholes, parts);
        }

        int none() {
            return 0;
        }

        int blank(int from, int to) {
            return from == to ? 1 : 0;
        }

        int ofTerminal(int terminal, int from, int to) {
            return to - from == 1 && look(from) == terminal ? 1 : 0;
        }

        int either(int one, int another) {
            return Math.min(MOST_READINGS, one + another);
        }

        int both(int one, int another) {
            return Math.min(MOST_READINGS, one * another);
        }

        int ofNonterminal(int nonterminal, int sum) {
            return sum > 0 && facts().isCircular(nonterminal) ? MOST_READINGS : sum;
        }
    }

    /** Finds the fewest edits, up to 99. */
    private static final class RepairingChart extends Chart {
        private static final int NEVER = 1000;

        RepairingChart(Facts facts, int[] sentence, int[] wholes, int[] parts) {
            super(facts, sentence, wholes, parts);
        }

        int none() {
            return NEVER;
        }

        int blank(int from, int to) {
            return to - from;
        }

        int ofTerminal(int terminal, int from, int to) {
            if (from == to) {
                return 1;
            }
            for (int place = from; place < to; place++) {
                if (look(place) == terminal) {
                    return to - from - 1;
                }
            }
            return to - from;
        }

        int either(int one, int another) {
            return Math.min(one, another);
        }

        int both(int one, int another) {
            return one == NEVER || another == NEVER ? NEVER : Math.min(MOST_LENGTH, one + another);
        }

        int ofNonterminal(int nonterminal, int sum) {
            return sum;
        }
    }
}
