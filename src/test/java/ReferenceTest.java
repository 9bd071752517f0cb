import java.math.BigInteger;
import java.util.ArrayDeque;
import java.util.ArrayList;
import java.util.Arrays;
import java.util.Collections;
import java.util.HashMap;
import java.util.HashSet;
import java.util.LinkedHashMap;
import java.util.List;
import java.util.Map;
import java.util.Set;
import java.util.TreeSet;

/**
 * Mixed runs of calls, each answered by Grammarsmith and by a slow reading of the document that
 * goes other ways: a recogniser by descent, sets of pairs, states of WHOLE without a bound, trees
 * that are built, and plain rounds over all stretches at once.
 *
 * Arguments: how many runs (400), and the number of the first run (1).
 */
public final class ReferenceTest {
    private static final int NONE = -1, TOO_LARGE = -2, STUCK = -3, END = 8;

    public static void main(String[] args) {
        int runs = args.length > 0 ? Integer.parseInt(args[0]) : 400;
        int first = args.length > 1 ? Integer.parseInt(args[1]) : 1;
        int wrong = 0;
        for (int run = first; run < first + runs && wrong < 5; run++) {
            String fault = new Run(run).play();
            if (fault != null) {
                wrong++;
                System.out.println("run " + run + ": " + fault);
            }
        }
        if (args.length > 0) {
            System.out.println(Run.calls + " calls, answers " + new java.util.TreeMap<>(Run.seen));
        }
        if (wrong > 0) {
            System.exit(1);
        }
    }

    // ---- a rule as a tree

    /** A part with what stands behind it: sign 0 for nothing, or one of ? * + %. */
    private record Item(int symbol, List<List<Item>> bracket, char sign, int separator) { }

    /** Reads a text by descent; null if it is no rule. */
    private static final class Descent {
        private final String text;
        private int at;

        Descent(String text) {
            this.text = text;
        }

        List<List<Item>> rule() {
            if (text.length() < 2 || text.charAt(0) < 'A' || text.charAt(0) > 'H' || text.charAt(1) != ':') {
                return null;
            }
            at = 2;
            List<List<Item>> choice = choice();
            return choice != null && at == text.length() ? choice : null;
        }

        private boolean sees(String signs) {
            return at < text.length() && signs.indexOf(text.charAt(at)) >= 0;
        }

        private List<List<Item>> choice() {
            List<List<Item>> sequences = new ArrayList<>();
            while (true) {
                List<Item> sequence = new ArrayList<>();
                while (sees("abcdefghABCDEFGH(")) {
                    Item item = item();
                    if (item == null) {
                        return null;
                    }
                    sequence.add(item);
                }
                sequences.add(sequence);
                if (!sees("|")) {
                    return sequences;
                }
                at++;
            }
        }

        private Item item() {
            char letter = text.charAt(at++);
            int symbol = NONE;
            List<List<Item>> bracket = null;
            if (letter == '(') {
                bracket = choice();
                if (bracket == null || !sees(")")) {
                    return null;
                }
                at++;
            } else {
                symbol = letter >= 'a' ? letter - 'a' : 16 + letter - 'A';
            }
            if (sees("?*+")) {
                return new Item(symbol, bracket, text.charAt(at++), NONE);
            }
            if (sees("%")) {
                at++;
                if (!sees("abcdefgh")) {
                    return null;
                }
                return new Item(symbol, bracket, '%', text.charAt(at++) - 'a');
            }
            return new Item(symbol, bracket, (char) 0, NONE);
        }
    }

    private static boolean canGoOn(String prefix) {
        StringBuilder brackets = new StringBuilder();
        for (int k = 0; k <= prefix.length(); k++) {
            for (String next : new String[] {"", "A:", ":", "a"}) {
                if (new Descent(prefix + next + brackets).rule() != null) {
                    return true;
                }
            }
            brackets.append(')');
        }
        return false;
    }

    // ---- grammars

    private static final class Full extends Exception {
        private static final long serialVersionUID = 1;
    }

    private record Production(int left, List<Integer> right) { }

    private static final class Language {
        List<String> rules = new ArrayList<>();
        List<Integer> sizes = new ArrayList<>();
        List<Production> productions = new ArrayList<>();
        int start;

        void enter(String text) throws Full {
            List<Production> before = new ArrayList<>(productions);
            try {
                List<List<Integer>> rights = new ArrayList<>();
                for (List<Item> sequence : new Descent(text).rule()) {
                    rights.add(symbols(sequence));
                }
                for (List<Integer> right : rights) {
                    add(text.charAt(0) - 'A', right);
                }
            } catch (Full full) {
                productions = before;
                throw full;
            }
            rules.add(text);
            sizes.add(productions.size() - before.size());
        }

        private void add(int left, List<Integer> right) throws Full {
            if (productions.size() == 24 || right.size() > 5) {
                throw new Full();
            }
            productions.add(new Production(left, right));
        }

        private List<Integer> symbols(List<Item> sequence) throws Full {
            List<Integer> symbols = new ArrayList<>();
            for (Item item : sequence) {
                symbols.add(symbol(item));
            }
            return symbols;
        }

        private int symbol(Item item) throws Full {
            int part = item.symbol();
            if (item.bracket() != null) {
                List<List<Integer>> rights = new ArrayList<>();
                for (List<Item> sequence : item.bracket()) {
                    rights.add(symbols(sequence));
                }
                int helper = helper();
                for (List<Integer> right : rights) {
                    add(helper, right);
                }
                part = 16 + helper;
            }
            if (item.sign() == 0) {
                return part;
            }
            int helper = helper();
            int again = 16 + helper;
            switch (item.sign()) {
                case '?':
                    add(helper, List.of());
                    add(helper, List.of(part));
                    break;
                case '*':
                    add(helper, List.of());
                    add(helper, List.of(again, part));
                    break;
                case '+':
                    add(helper, List.of(part));
                    add(helper, List.of(again, part));
                    break;
                default:
                    add(helper, List.of(part));
                    add(helper, List.of(again, item.separator(), part));
                    break;
            }
            return again;
        }

        private int helper() throws Full {
            for (int helper = 8; helper < 16; helper++) {
                boolean free = true;
                for (Production production : productions) {
                    free &= production.left() != helper && !production.right().contains(16 + helper);
                }
                if (free) {
                    return helper;
                }
            }
            throw new Full();
        }

        void undo() {
            rules.remove(rules.size() - 1);
            int size = sizes.remove(sizes.size() - 1);
            productions = new ArrayList<>(productions.subList(0, productions.size() - size));
        }
    }

    // ---- what is found

    private static final class Found {
        final List<Production> productions;
        final int start;
        final Set<Integer> nullable = new HashSet<>();
        final Map<Integer, Set<Integer>> firsts = new HashMap<>();
        final Map<Integer, Set<Integer>> behind = new HashMap<>();
        final Map<Integer, BigInteger> lengths = new HashMap<>();
        final Map<Integer, String> spellings = new HashMap<>();

        Found(Language language) {
            productions = List.copyOf(language.productions);
            start = language.start;
            for (int n = 0; n < 16; n++) {
                firsts.put(n, new TreeSet<>());
                behind.put(n, new TreeSet<>());
            }
            behind.get(start).add(END);
            for (int round = 0; round < 40; round++) {
                for (Production p : productions) {
                    if (vanish(p.right())) {
                        nullable.add(p.left());
                    }
                }
            }
            for (int round = 0; round < 40; round++) {
                for (Production p : productions) {
                    firsts.get(p.left()).addAll(firstsOf(p.right()));
                }
            }
            for (int round = 0; round < 40; round++) {
                for (Production p : productions) {
                    for (int k = 0; k < p.right().size(); k++) {
                        List<Integer> rest = p.right().subList(k + 1, p.right().size());
                        if (p.right().get(k) >= 16) {
                            Set<Integer> set = behind.get(p.right().get(k) - 16);
                            set.addAll(firstsOf(rest));
                            if (vanish(rest)) {
                                set.addAll(behind.get(p.left()));
                            }
                        }
                    }
                }
            }
            for (int round = 0; round < 60; round++) {
                for (Production p : productions) {
                    shorten(p);
                }
            }
        }

        private void shorten(Production p) {
            BigInteger sum = BigInteger.ZERO;
            StringBuilder spelling = new StringBuilder();
            for (int symbol : p.right()) {
                if (symbol < 8) {
                    sum = sum.add(BigInteger.ONE);
                    spelling.append((char) ('a' + symbol));
                } else {
                    if (!lengths.containsKey(symbol - 16)) {
                        return;
                    }
                    sum = sum.add(lengths.get(symbol - 16));
                    spelling.append(spellings.get(symbol - 16));
                }
            }
            if (spelling.length() > 30) {
                spelling.setLength(30);
            }
            BigInteger old = lengths.get(p.left());
            int order = old == null ? -1 : sum.compareTo(old);
            if (order < 0 || order == 0 && spelling.toString().compareTo(spellings.get(p.left())) < 0) {
                lengths.put(p.left(), sum);
                spellings.put(p.left(), spelling.toString());
            }
        }

        boolean vanish(List<Integer> row) {
            for (int symbol : row) {
                if (symbol < 8 || !nullable.contains(symbol - 16)) {
                    return false;
                }
            }
            return true;
        }

        Set<Integer> firstsOf(List<Integer> row) {
            Set<Integer> set = new TreeSet<>();
            for (int symbol : row) {
                if (symbol < 8) {
                    set.add(symbol);
                    return set;
                }
                set.addAll(firsts.get(symbol - 16));
                if (!nullable.contains(symbol - 16)) {
                    return set;
                }
            }
            return set;
        }

        boolean reached(int n) {
            Set<Integer> seen = new HashSet<>(List.of(start));
            ArrayDeque<Integer> queue = new ArrayDeque<>(seen);
            while (!queue.isEmpty()) {
                int from = queue.remove();
                for (Production p : productions) {
                    for (int symbol : p.right()) {
                        if (p.left() == from && symbol >= 16 && seen.add(symbol - 16)) {
                            queue.add(symbol - 16);
                        }
                    }
                }
            }
            return seen.contains(n);
        }

        boolean leftRecursive(int n) {
            Set<Integer> seen = new HashSet<>();
            ArrayDeque<Integer> queue = new ArrayDeque<>(List.of(n));
            while (!queue.isEmpty()) {
                int from = queue.remove();
                for (Production p : productions) {
                    for (int k = 0; k < p.right().size() && p.left() == from; k++) {
                        int symbol = p.right().get(k);
                        if (symbol >= 16 && vanish(p.right().subList(0, k)) && seen.add(symbol - 16)) {
                            queue.add(symbol - 16);
                        }
                    }
                }
            }
            return seen.contains(n);
        }
    }

    // ---- tables of states: an item is its production and place, the one more production is 24

    private record Spot(int production, int place) { }

    private static final class States {
        final Found found;
        /** States of WHOLE, at most a bound; null where that was too little. */
        final List<Map<Spot, Set<Integer>>> states = new ArrayList<>();
        final List<Map<Integer, Integer>> ways = new ArrayList<>();
        final boolean all;

        States(Found found, boolean looks, int bound) {
            this.found = found;
            Map<Map<Spot, Set<Integer>>, Integer> numbers = new HashMap<>();
            Map<Spot, Set<Integer>> begin = new HashMap<>();
            begin.put(new Spot(24, 0), looks ? Set.of(END) : Set.of());
            states.add(complete(begin, looks));
            numbers.put(states.get(0), 0);
            boolean room = true;
            for (int k = 0; k < states.size() && room; k++) {
                Map<Integer, Map<Spot, Set<Integer>>> nexts = new LinkedHashMap<>();
                for (Map.Entry<Spot, Set<Integer>> entry : states.get(k).entrySet()) {
                    Spot spot = entry.getKey();
                    List<Integer> right = right(spot.production());
                    if (spot.place() < right.size()) {
                        nexts.computeIfAbsent(right.get(spot.place()), s -> new HashMap<>())
                                .put(new Spot(spot.production(), spot.place() + 1), entry.getValue());
                    }
                }
                Map<Integer, Integer> way = new HashMap<>();
                for (Map.Entry<Integer, Map<Spot, Set<Integer>>> next : nexts.entrySet()) {
                    Map<Spot, Set<Integer>> state = complete(next.getValue(), looks);
                    Integer number = numbers.get(state);
                    if (number == null) {
                        number = states.size();
                        states.add(state);
                        numbers.put(state, number);
                    }
                    way.put(next.getKey(), number);
                }
                ways.add(way);
                room = states.size() <= bound;
            }
            all = room;
        }

        private States(Found found, List<Map<Spot, Set<Integer>>> states, List<Map<Integer, Integer>> ways) {
            this.found = found;
            this.states.addAll(states);
            this.ways.addAll(ways);
            all = true;
        }

        /** The states of MERGED, from all states of WHOLE. */
        States merge() {
            List<Set<Spot>> cores = new ArrayList<>();
            List<Map<Spot, Set<Integer>>> merged = new ArrayList<>();
            int[] number = new int[states.size()];
            for (int k = 0; k < states.size(); k++) {
                Set<Spot> core = states.get(k).keySet();
                number[k] = cores.indexOf(core);
                if (number[k] < 0) {
                    number[k] = cores.size();
                    cores.add(core);
                    merged.add(new HashMap<>());
                }
                for (Spot spot : core) {
                    merged.get(number[k]).computeIfAbsent(spot, s -> new TreeSet<>()).addAll(states.get(k).get(spot));
                }
            }
            List<Map<Integer, Integer>> mergedWays = new ArrayList<>();
            for (int k = 0; k < cores.size(); k++) {
                mergedWays.add(new HashMap<>());
            }
            for (int k = 0; k < states.size(); k++) {
                for (Map.Entry<Integer, Integer> way : ways.get(k).entrySet()) {
                    mergedWays.get(number[k]).put(way.getKey(), number[way.getValue()]);
                }
            }
            return new States(found, merged, mergedWays);
        }

        List<Integer> right(int production) {
            return production == 24 ? List.of(16 + found.start) : found.productions.get(production).right();
        }

        private Map<Spot, Set<Integer>> complete(Map<Spot, Set<Integer>> begin, boolean looks) {
            Map<Spot, Set<Integer>> state = new HashMap<>();
            ArrayDeque<Spot> queue = new ArrayDeque<>();
            for (Spot spot : begin.keySet()) {
                state.put(spot, new TreeSet<>(begin.get(spot)));
                queue.add(spot);
            }
            while (!queue.isEmpty()) {
                Spot spot = queue.remove();
                List<Integer> right = right(spot.production());
                if (spot.place() == right.size() || right.get(spot.place()) < 16) {
                    continue;
                }
                List<Integer> rest = right.subList(spot.place() + 1, right.size());
                Set<Integer> behind = new TreeSet<>(found.firstsOf(rest));
                if (found.vanish(rest)) {
                    behind.addAll(state.get(spot));
                }
                for (int p = 0; p < found.productions.size(); p++) {
                    if (found.productions.get(p).left() == right.get(spot.place()) - 16) {
                        Spot added = new Spot(p, 0);
                        boolean grows = !state.containsKey(added);
                        Set<Integer> set = state.computeIfAbsent(added, s -> new TreeSet<>());
                        if (looks) {
                            grows |= set.addAll(behind);
                        }
                        if (grows) {
                            queue.add(added);
                        }
                    }
                }
            }
            return state;
        }
    }

    /** One action: 's' and 'a' stand ahead of reductions. */
    private record Action(char what, int production) { }

    private static final class Node {
        final int production;
        final List<Object> parts = new ArrayList<>();

        Node(int production) {
            this.production = production;
        }

        int value() {
            int sum = production + 1;
            for (int k = 0; k < parts.size(); k++) {
                Object part = parts.get(k);
                sum += (k + 1) * (part instanceof Node ? ((Node) part).value() : (Integer) part + 1);
            }
            return sum % 1009;
        }
    }

    // ---- the whole

    private static final class Reference {
        String text = "";
        final Language[] languages = {new Language(), new Language()};
        int used;
        final int[] levels = new int[8];
        final int[] sides = new int[8];
        final List<Integer> sentence = new ArrayList<>();
        private Found found;
        private States small;
        private States large;
        private States merged;
        /** Where the states of WHOLE without a bound are too many for this slow reading. */
        boolean gaveUp;

        Language language() {
            return languages[used];
        }

        void changed() {
            found = null;
            small = null;
            large = null;
            merged = null;
        }

        Found found() {
            if (found == null) {
                found = new Found(language());
            }
            return found;
        }

        int type(char letter) {
            if ("abcdefghABCDEFGH:|()?*+%".indexOf(letter) < 0) {
                throw new IllegalArgumentException();
            }
            if (text.length() == 24) {
                throw new IllegalStateException();
            }
            text += letter;
            return text.length();
        }

        int wipe() {
            int before = text.length();
            text = "";
            return before;
        }

        int fault() {
            if (new Descent(text).rule() != null) {
                return NONE;
            }
            for (int k = 1; k <= text.length(); k++) {
                if (!canGoOn(text.substring(0, k))) {
                    return k - 1;
                }
            }
            return text.length();
        }

        int enter() {
            if (fault() != NONE) {
                throw new IllegalArgumentException();
            }
            try {
                language().enter(text);
            } catch (Full full) {
                throw new IllegalStateException();
            }
            changed();
            return language().productions.size();
        }

        int undo() {
            if (language().rules.isEmpty()) {
                throw new IllegalStateException();
            }
            language().undo();
            changed();
            return language().productions.size();
        }

        int use(int grammar) {
            if (grammar != 0 && grammar != 1) {
                throw new IndexOutOfBoundsException();
            }
            int before = used;
            used = grammar;
            changed();
            return before;
        }

        int bring(int shift) {
            if (shift < 0 || shift > 7) {
                throw new IllegalArgumentException();
            }
            List<String> texts = new ArrayList<>(languages[1 - used].rules);
            int entered = 0;
            try {
                for (String rule : texts) {
                    StringBuilder renamed = new StringBuilder();
                    for (char letter : rule.toCharArray()) {
                        boolean name = letter >= 'A' && letter <= 'H';
                        renamed.append(name ? (char) ('A' + (letter - 'A' + shift) % 8) : letter);
                    }
                    language().enter(renamed.toString());
                    entered++;
                }
            } catch (Full full) {
                for (int k = 0; k < entered; k++) {
                    language().undo();
                }
                throw new IllegalStateException();
            }
            changed();
            return texts.size();
        }

        int start(int nonterminal) {
            if (nonterminal < 0 || nonterminal > 7) {
                throw new IndexOutOfBoundsException();
            }
            int before = language().start;
            language().start = nonterminal;
            changed();
            return before;
        }

        int level(int terminal, int level, int side) {
            if (terminal < 0 || terminal > 7 || side < 0 || side > 2) {
                throw new IndexOutOfBoundsException();
            }
            if (level < 0 || level > 5) {
                throw new IllegalArgumentException();
            }
            int before = levels[terminal];
            levels[terminal] = level;
            sides[terminal] = side;
            return before;
        }

        int left(int production) {
            if (production < 0 || production >= language().productions.size()) {
                throw new IndexOutOfBoundsException();
            }
            return language().productions.get(production).left();
        }

        int right(int production, int place) {
            left(production);
            if (place < 0 || place > 4) {
                throw new IndexOutOfBoundsException();
            }
            List<Integer> right = language().productions.get(production).right();
            return place < right.size() ? right.get(place) : NONE;
        }

        private void nonterminal(int n) {
            if (n < 0 || n > 15) {
                throw new IndexOutOfBoundsException();
            }
        }

        private int bits(Set<Integer> set) {
            int bits = 0;
            for (int member : set) {
                bits |= 1 << member;
            }
            return bits;
        }

        int isNullable(int n) {
            nonterminal(n);
            return found().nullable.contains(n) ? 1 : 0;
        }

        int first(int n) {
            nonterminal(n);
            return bits(found().firsts.get(n));
        }

        int follow(int n) {
            nonterminal(n);
            return bits(found().behind.get(n));
        }

        int uses(int n) {
            nonterminal(n);
            return (found().lengths.containsKey(n) ? 1 : 0) + (found().reached(n) ? 2 : 0);
        }

        int isLeftRecursive(int n) {
            nonterminal(n);
            return found().leftRecursive(n) ? 1 : 0;
        }

        int shortest(int n) {
            nonterminal(n);
            BigInteger length = found().lengths.get(n);
            return length == null ? NONE : length.min(BigInteger.valueOf(99)).intValue();
        }

        int sentence(int n, int place) {
            nonterminal(n);
            if (place < 0) {
                throw new IndexOutOfBoundsException();
            }
            int length = shortest(n);
            if (length == NONE || length > 20 || place >= length) {
                throw new IllegalStateException();
            }
            return found().spellings.get(n).charAt(place) - 'a';
        }

        private void kind(int kind) {
            if (kind < 0 || kind > 3) {
                throw new IndexOutOfBoundsException();
            }
        }

        /** The states of a kind; null if they are too many, or given up. */
        private States states(int kind) {
            if (kind == 3) {
                if (large == null) {
                    large = new States(found(), true, 700);
                }
                return large.states.size() > 80 ? null : large;
            }
            if (small == null) {
                small = new States(found(), false, 80);
            }
            if (small.states.size() > 80) {
                return null;
            }
            if (kind == 1) {
                return small;
            }
            states(3);
            if (!large.all) {
                gaveUp = true;
                return null;
            }
            if (merged == null) {
                merged = large.merge();
            }
            return merged;
        }

        private List<Integer> predicted(int n, int look) {
            List<Integer> cell = new ArrayList<>();
            for (int p = 0; p < found().productions.size(); p++) {
                Production production = found().productions.get(p);
                boolean in = found().firstsOf(production.right()).contains(look)
                        || found().vanish(production.right()) && found().behind.get(n).contains(look);
                if (production.left() == n && in) {
                    cell.add(p);
                }
            }
            return cell;
        }

        private List<Action> actions(int kind, States states, int state, int look) {
            List<Action> actions = new ArrayList<>();
            for (Map.Entry<Spot, Set<Integer>> entry : states.states.get(state).entrySet()) {
                Spot spot = entry.getKey();
                List<Integer> right = states.right(spot.production());
                if (spot.place() < right.size()) {
                    if (right.get(spot.place()) == look && !actions.contains(new Action('s', 0))) {
                        actions.add(new Action('s', 0));
                    }
                } else if (spot.production() == 24) {
                    if (look == END) {
                        actions.add(new Action('a', 0));
                    }
                } else {
                    int left = found().productions.get(spot.production()).left();
                    Set<Integer> behind = kind == 1 ? found().behind.get(left) : entry.getValue();
                    if (behind.contains(look)) {
                        actions.add(new Action('x', spot.production()));
                    }
                }
            }
            Collections.sort(actions, (one, two) -> one.what() != two.what()
                    ? "asx".indexOf(one.what()) - "asx".indexOf(two.what()) : one.production() - two.production());
            return actions;
        }

        /** The action of a settled conflict, with NONE for no action; null if it is not settled. */
        private Action settle(List<Action> actions, int look) {
            if (actions.size() != 2 || actions.get(0).what() != 's') {
                return null;
            }
            int own = 0;
            for (int symbol : found().productions.get(actions.get(1).production()).right()) {
                if (symbol < 8) {
                    own = levels[symbol];
                }
            }
            if (own == 0 || levels[look] == 0) {
                return null;
            }
            int order = own != levels[look] ? own - levels[look] : sides[look] == 0 ? 1 : sides[look] == 1 ? -1 : 0;
            return order > 0 ? actions.get(1) : order < 0 ? actions.get(0) : new Action('n', NONE);
        }

        int size(int kind) {
            kind(kind);
            if (kind > 0) {
                States states = states(kind);
                return states == null ? TOO_LARGE : states.states.size();
            }
            int cells = 0;
            for (int n = 0; n < 16; n++) {
                for (int look = 0; look <= END; look++) {
                    cells += predicted(n, look).isEmpty() ? 0 : 1;
                }
            }
            return cells;
        }

        private int conflicts(int kind, boolean settledAlone) {
            kind(kind);
            int cells = 0;
            if (kind == 0) {
                for (int n = 0; n < 16; n++) {
                    for (int look = 0; look <= END; look++) {
                        cells += predicted(n, look).size() > 1 ? 1 : 0;
                    }
                }
                return settledAlone ? 0 : cells;
            }
            States states = states(kind);
            if (states == null) {
                return TOO_LARGE;
            }
            for (int state = 0; state < states.states.size(); state++) {
                for (int look = 0; look <= END; look++) {
                    List<Action> actions = actions(kind, states, state, look);
                    if (actions.size() > 1 && (!settledAlone || settle(actions, look) != null)) {
                        cells++;
                    }
                }
            }
            return cells;
        }

        int conflicts(int kind) {
            return conflicts(kind, false);
        }

        int settled(int kind) {
            return conflicts(kind, true);
        }

        int chosen() {
            for (int kind = 0; kind < 4; kind++) {
                if (size(kind) != TOO_LARGE && conflicts(kind) == settled(kind)) {
                    return kind;
                }
            }
            return NONE;
        }

        int put(int place, int terminal) {
            if (place < 0 || place > sentence.size() || terminal < 0 || terminal > 7) {
                throw new IndexOutOfBoundsException();
            }
            if (sentence.size() == 12) {
                throw new IllegalStateException();
            }
            sentence.add(place, terminal);
            return sentence.size();
        }

        int cut(int place) {
            if (place < 0 || place >= sentence.size()) {
                throw new IndexOutOfBoundsException();
            }
            return sentence.remove(place);
        }

        private int look(int place) {
            return place < sentence.size() ? sentence.get(place) : END;
        }

        private int tree;

        private int predict() {
            Node top = new Node(0);
            List<Object[]> todo = new ArrayList<>();
            todo.add(new Object[] {found().start, top, 0});
            top.parts.add(null);
            int place = 0;
            int steps = 0;
            while (true) {
                int look = look(place);
                if (todo.isEmpty()) {
                    tree = look == END ? ((Node) top.parts.get(0)).value() : 0;
                    return look == END ? NONE : place;
                }
                Object[] next = todo.get(todo.size() - 1);
                int symbol = (Integer) next[0];
                Node parent = (Node) next[1];
                boolean begins = parent == top;
                boolean terminal = !begins && symbol < 8;
                List<Integer> cell = terminal ? null : predicted(begins ? symbol : symbol - 16, look);
                if (terminal ? symbol != look : cell.isEmpty()) {
                    return place;
                }
                if (steps == 300) {
                    return STUCK;
                }
                steps++;
                todo.remove(todo.size() - 1);
                if (terminal) {
                    parent.parts.set((Integer) next[2], symbol);
                    place++;
                } else {
                    Node node = new Node(cell.get(0));
                    parent.parts.set((Integer) next[2], node);
                    List<Integer> right = found().productions.get(cell.get(0)).right();
                    for (int k = 0; k < right.size(); k++) {
                        node.parts.add(null);
                    }
                    for (int k = right.size() - 1; k >= 0; k--) {
                        todo.add(new Object[] {right.get(k), node, k});
                    }
                }
            }
        }

        int parse(int kind) {
            kind(kind);
            if (kind == 0) {
                return predict();
            }
            States states = states(kind);
            if (states == null) {
                return TOO_LARGE;
            }
            List<Integer> stack = new ArrayList<>(List.of(0));
            List<Object> trees = new ArrayList<>();
            int place = 0;
            int steps = 0;
            while (true) {
                int state = stack.get(stack.size() - 1);
                List<Action> actions = actions(kind, states, state, look(place));
                Action action = actions.isEmpty() ? new Action('n', NONE) : actions.get(0);
                Action settled = settle(actions, look(place));
                action = settled == null ? action : settled;
                if (action.what() == 'n') {
                    return place;
                }
                if (action.what() == 'a') {
                    tree = ((Node) trees.get(0)).value();
                    return NONE;
                }
                if (steps == 300) {
                    return STUCK;
                }
                steps++;
                if (action.what() == 's') {
                    trees.add(look(place));
                    stack.add(states.ways.get(state).get(look(place)));
                    place++;
                } else {
                    Production production = found().productions.get(action.production());
                    Node node = new Node(action.production());
                    for (int k = 0; k < production.right().size(); k++) {
                        node.parts.add(0, trees.remove(trees.size() - 1));
                        stack.remove(stack.size() - 1);
                    }
                    trees.add(node);
                    stack.add(states.ways.get(stack.get(stack.size() - 1)).get(16 + production.left()));
                }
            }
        }

        int value(int kind) {
            if (parse(kind) != NONE) {
                throw new IllegalStateException();
            }
            return tree;
        }

        /** Trees of every height, one height more each round, over all stretches at once. */
        int readings() {
            int n = sentence.size();
            int[][][] counts = new int[16][n + 1][n + 1];
            while (true) {
                int[][][] next = new int[16][n + 1][n + 1];
                for (Production p : found().productions) {
                    for (int i = 0; i <= n; i++) {
                        int[] ways = new int[n + 1];
                        ways[i] = 1;
                        for (int symbol : p.right()) {
                            int[] more = new int[n + 1];
                            for (int k = i; k <= n; k++) {
                                for (int j = k; j <= n && ways[k] > 0; j++) {
                                    int here = symbol >= 16 ? counts[symbol - 16][k][j]
                                            : j == k + 1 && look(k) == symbol ? 1 : 0;
                                    more[j] = Math.min(100, more[j] + ways[k] * here);
                                }
                            }
                            ways = more;
                        }
                        for (int j = i; j <= n; j++) {
                            next[p.left()][i][j] = Math.min(100, next[p.left()][i][j] + ways[j]);
                        }
                    }
                }
                if (Arrays.deepEquals(counts, next)) {
                    return counts[found().start][0][n];
                }
                counts = next;
            }
        }

        /** Edits go from the left to the right: a terminal, taken, put in or in place, then what is taken out. */
        int repair() {
            int n = sentence.size();
            long[][][] costs = new long[16][n + 1][n + 1];
            for (long[][] rows : costs) {
                for (long[] row : rows) {
                    Arrays.fill(row, 1L << 40);
                }
            }
            boolean changes = true;
            while (changes) {
                changes = false;
                for (Production p : found().productions) {
                    for (int i = 0; i <= n; i++) {
                        long[] best = new long[n + 1];
                        Arrays.fill(best, 1L << 40);
                        best[i] = 0;
                        if (p.right().isEmpty()) {
                            for (int j = i; j <= n; j++) {
                                best[j] = j - i;
                            }
                        }
                        for (int symbol : p.right()) {
                            long[] more = new long[n + 1];
                            Arrays.fill(more, 1L << 40);
                            for (int k = i; k <= n; k++) {
                                for (int j = k; j <= n; j++) {
                                    long here = symbol >= 16 ? costs[symbol - 16][k][j] : edits(symbol, k, j);
                                    more[j] = Math.min(more[j], best[k] + here);
                                }
                            }
                            best = more;
                        }
                        for (int j = i; j <= n; j++) {
                            if (best[j] < costs[p.left()][i][j]) {
                                costs[p.left()][i][j] = best[j];
                                changes = true;
                            }
                        }
                    }
                }
            }
            long least = costs[found().start][0][n];
            return least >= 1L << 40 ? NONE : (int) Math.min(99, least);
        }

        private int edits(int terminal, int from, int to) {
            int[] old = new int[to - from + 1];
            for (int k = 0; k < old.length; k++) {
                old[k] = k;
            }
            int[] row = new int[old.length];
            row[0] = 1;
            for (int k = 1; k < row.length; k++) {
                int swap = old[k - 1] + (look(from + k - 1) == terminal ? 0 : 1);
                row[k] = Math.min(swap, Math.min(old[k] + 1, row[k - 1] + 1));
            }
            return row[row.length - 1];
        }
    }

    // ---- runs

    private interface Call {
        int answer();
    }

    /** A row of numbers that the seed alone settles, so that every run is the same each time. */
    private static final class Dice {
        private long state;

        Dice(long seed) {
            state = seed * 0x9E3779B97F4A7C15L;
        }

        int nextInt(int bound) {
            state = state * 6364136223846793005L + 1442695040888963407L;
            return (int) ((state >>> 33) % bound);
        }

        boolean nextBoolean() {
            return nextInt(2) == 0;
        }
    }

    private static final class Run {
        static long calls;
        static final Map<String, Integer> seen = new HashMap<>();

        private final Dice random;
        private final Grammarsmith object = new Grammarsmith();
        private final Reference reference = new Reference();
        private final StringBuilder told = new StringBuilder();
        private final int letters;
        private final int names;
        /** Its rules are long, so that tables come near to what is too large. */
        private final boolean wide;
        private int left = 512;

        Run(int seed) {
            random = new Dice(seed);
            letters = 1 + random.nextInt(random.nextBoolean() ? 3 : 8);
            names = 1 + random.nextInt(random.nextBoolean() ? 3 : 8);
            wide = random.nextInt(4) == 0;
        }

        String play() {
            int rules = wide ? 8 : random.nextInt(names + 2);
            String fault = null;
            for (int k = 0; k < rules && fault == null; k++) {
                fault = rule((char) ('A' + k % names));
            }
            int phases = 3 + random.nextInt(30);
            for (int k = 0; k < phases && left > 0 && fault == null; k++) {
                fault = phase();
            }
            return fault;
        }

        private String phase() {
            int dice = random.nextInt(20);
            if (dice < 4) {
                return rule(name());
            }
            String fault = null;
            int many = 1 + random.nextInt(12);
            for (int k = 0; k < many && fault == null; k++) {
                fault = dice < 9 ? odd() : dice < 12 ? edit() : dice < 14 ? state() : ask();
            }
            return fault;
        }

        private String rule(char name) {
            String text = random.nextInt(8) == 0 ? noise() : name + ":" + choice(2 + random.nextInt(3));
            String fault = check("wipe", 0, 0, 0);
            for (int k = 0; k < text.length() && k < 25 && fault == null; k++) {
                fault = check("type", text.charAt(k), 0, 0);
            }
            if (fault == null && random.nextInt(3) == 0) {
                fault = check("fault", 0, 0, 0);
            }
            return fault == null ? check("enter", 0, 0, 0) : fault;
        }

        private String noise() {
            StringBuilder noise = new StringBuilder(random.nextBoolean() ? name() + ":" : "");
            int length = random.nextInt(26);
            for (int k = 0; k < length; k++) {
                noise.append("ab:cABC|(()??**++%%i".charAt(random.nextInt(20)));
            }
            return noise.toString();
        }

        private char name() {
            return (char) ('A' + random.nextInt(names));
        }

        private char letter() {
            return (char) ('a' + random.nextInt(letters));
        }

        private String choice(int depth) {
            StringBuilder choice = new StringBuilder();
            int sequences = 1 + (wide || random.nextInt(2) == 0 ? random.nextInt(4) : 0);
            for (int k = 0; k < sequences; k++) {
                choice.append(k > 0 ? "|" : "");
                int items = wide ? 3 + random.nextInt(3) : random.nextInt(random.nextInt(6) == 0 ? 7 : 4);
                for (int j = 0; j < items; j++) {
                    item(choice, depth);
                }
            }
            return choice.toString();
        }

        private void item(StringBuilder choice, int depth) {
            int dice = random.nextInt(10);
            if (dice == 0 && depth > 0) {
                choice.append('(').append(choice(depth - 2)).append(')');
            } else {
                choice.append(dice < 6 ? letter() : name());
            }
            int sign = random.nextInt(24);
            if (sign < 3) {
                choice.append("?*+".charAt(sign));
            } else if (sign == 3) {
                choice.append('%').append(letter());
            }
        }

        private String odd() {
            String[] names = {"type", "use", "bring", "start", "level", "left", "right", "isNullable", "first",
                "follow", "uses", "isLeftRecursive", "shortest", "sentence", "size", "conflicts", "settled", "put",
                "cut", "parse", "value"};
            int[] odds = {-1, 0, 1, 2, 3, 4, 5, 7, 8, 9, 12, 13, 15, 16, 24, 99, Integer.MAX_VALUE, Integer.MIN_VALUE};
            return check(names[random.nextInt(names.length)], odds[random.nextInt(odds.length)],
                    odds[random.nextInt(odds.length)], odds[random.nextInt(odds.length)]);
        }

        private String edit() {
            if (random.nextInt(4) == 0) {
                return check("cut", random.nextInt(reference.sentence.size() + 1), 0, 0);
            }
            return check("put", random.nextInt(reference.sentence.size() + 1), random.nextInt(letters), 0);
        }

        private String state() {
            switch (random.nextInt(9)) {
                case 0: return check("undo", 0, 0, 0);
                case 1: return check("use", random.nextInt(2), 0, 0);
                case 2: return check("bring", random.nextInt(8), 0, 0);
                case 3: return check("start", random.nextInt(names), 0, 0);
                default: return check("level", random.nextInt(letters), random.nextInt(random.nextBoolean() ? 2 : 7),
                        random.nextInt(3));
            }
        }

        /** Mostly one that a production has on its left. */
        private int nonterminal() {
            List<Production> all = reference.language().productions;
            return all.isEmpty() || random.nextInt(4) == 0 ? random.nextInt(16)
                    : all.get(random.nextInt(all.size())).left();
        }

        private String ask() {
            int nonterminal = nonterminal();
            int production = random.nextInt(reference.language().productions.size() + 1);
            int kind = random.nextInt(4);
            switch (random.nextInt(21)) {
                case 0: return check("productions", 0, 0, 0);
                case 1: return check("left", production, 0, 0);
                case 2: return check("right", production, random.nextInt(5), 0);
                case 3: return check("isNullable", nonterminal, 0, 0);
                case 4: return check("first", nonterminal, 0, 0);
                case 5: return check("follow", nonterminal, 0, 0);
                case 6: return check("uses", nonterminal, 0, 0);
                case 7: return check("isLeftRecursive", nonterminal, 0, 0);
                case 8: return check("shortest", nonterminal, 0, 0);
                case 9: return spell(nonterminal);
                case 10: return check("size", kind, 0, 0);
                case 11: return check("conflicts", kind, 0, 0);
                case 12: return check("settled", kind, 0, 0);
                case 13: return check("chosen", 0, 0, 0);
                case 14: return derive();
                case 15: return check("parse", kind, 0, 0);
                case 16: return check("value", kind, 0, 0);
                case 17: return check("readings", 0, 0, 0);
                case 18: return check("repair", 0, 0, 0);
                case 19: return derive();
                default: return everything();
            }
        }

        private String spell(int nonterminal) {
            int length = Math.max(0, reference.shortest(nonterminal));
            String fault = random.nextBoolean() ? check("shortest", nonterminal, 0, 0) : null;
            for (int place = length; place >= 0 && place > length - 4 && fault == null; place--) {
                fault = check("sentence", nonterminal, place, 0);
            }
            return fault;
        }

        /** Makes the sentence one that is derived from the start, if that comes about, and asks of it. */
        private String derive() {
            List<Integer> row = new ArrayList<>(List.of(16 + reference.language().start));
            for (int k = 0; k < 60; k++) {
                int at = -1;
                for (int j = 0; j < row.size() && at < 0; j++) {
                    at = row.get(j) >= 16 ? j : -1;
                }
                List<Production> fits = new ArrayList<>();
                for (Production p : reference.language().productions) {
                    if (at >= 0 && p.left() == row.get(at) - 16) {
                        fits.add(p);
                    }
                }
                if (fits.isEmpty()) {
                    break;
                }
                row.remove(at);
                row.addAll(at, fits.get(random.nextInt(fits.size())).right());
            }
            row.removeIf(symbol -> symbol >= 16);
            String fault = null;
            while (!reference.sentence.isEmpty() && fault == null && left > 0) {
                fault = check("cut", 0, 0, 0);
            }
            for (int k = 0; k < row.size() && k < 12 && fault == null; k++) {
                fault = check("put", k, row.get(k), 0);
            }
            return fault == null ? everything() : fault;
        }

        private String everything() {
            String fault = random.nextBoolean() ? check("readings", 0, 0, 0) : check("repair", 0, 0, 0);
            for (int kind = 0; kind < 4 && fault == null; kind++) {
                fault = check("parse", kind, 0, 0);
                fault = fault == null ? check("value", kind, 0, 0) : fault;
            }
            fault = fault == null ? check("readings", 0, 0, 0) : fault;
            return fault == null ? check("repair", 0, 0, 0) : fault;
        }

        private String check(String name, int a, int b, int c) {
            if (left == 0) {
                return null;
            }
            left--;
            calls++;
            told.append(name).append('(').append(a).append(',').append(b).append(',').append(c).append(") ");
            reference.gaveUp = false;
            String due = outcome(() -> due(name, a, b, c));
            String got = outcome(() -> got(name, a, b, c));
            told.append(got).append('\n');
            String key = name + (due.startsWith("I") || due.equals("-2") || due.equals("-3") ? " " + due : "");
            seen.merge(reference.gaveUp ? "given up" : key, 1, Integer::sum);
            return reference.gaveUp || due.equals(got) ? null : "due is " + due + " in\n" + told;
        }

        private static String outcome(Call call) {
            try {
                return Integer.toString(call.answer());
            } catch (RuntimeException thrown) {
                return thrown.getClass().getSimpleName();
            }
        }

        private int due(String name, int a, int b, int c) {
            switch (name) {
                case "type": return reference.type((char) a);
                case "wipe": return reference.wipe();
                case "fault": return reference.fault();
                case "enter": return reference.enter();
                case "undo": return reference.undo();
                case "use": return reference.use(a);
                case "bring": return reference.bring(a);
                case "start": return reference.start(a);
                case "level": return reference.level(a, b, c);
                case "productions": return reference.language().productions.size();
                case "left": return reference.left(a);
                case "right": return reference.right(a, b);
                case "isNullable": return reference.isNullable(a);
                case "first": return reference.first(a);
                case "follow": return reference.follow(a);
                case "uses": return reference.uses(a);
                case "isLeftRecursive": return reference.isLeftRecursive(a);
                case "shortest": return reference.shortest(a);
                case "sentence": return reference.sentence(a, b);
                case "size": return reference.size(a);
                case "conflicts": return reference.conflicts(a);
                case "settled": return reference.settled(a);
                case "chosen": return reference.chosen();
                case "put": return reference.put(a, b);
                case "cut": return reference.cut(a);
                case "parse": return reference.parse(a);
                case "value": return reference.value(a);
                case "readings": return reference.readings();
                default: return reference.repair();
            }
        }

        private int got(String name, int a, int b, int c) {
            switch (name) {
                case "type": return object.type((char) a);
                case "wipe": return object.wipe();
                case "fault": return object.fault();
                case "enter": return object.enter();
                case "undo": return object.undo();
                case "use": return object.use(a);
                case "bring": return object.bring(a);
                case "start": return object.start(a);
                case "level": return object.level(a, b, c);
                case "productions": return object.productions();
                case "left": return object.left(a);
                case "right": return object.right(a, b);
                case "isNullable": return object.isNullable(a) ? 1 : 0;
                case "first": return object.first(a);
                case "follow": return object.follow(a);
                case "uses": return object.uses(a);
                case "isLeftRecursive": return object.isLeftRecursive(a) ? 1 : 0;
                case "shortest": return object.shortest(a);
                case "sentence": return object.sentence(a, b);
                case "size": return object.size(a);
                case "conflicts": return object.conflicts(a);
                case "settled": return object.settled(a);
                case "chosen": return object.chosen();
                case "put": return object.put(a, b);
                case "cut": return object.cut(a);
                case "parse": return object.parse(a);
                case "value": return object.value(a);
                case "readings": return object.readings();
                default: return object.repair();
            }
        }
    }
}
