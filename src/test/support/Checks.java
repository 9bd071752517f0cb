import java.util.HashMap;
import java.util.Map;

/** How a test asks an object and tells what is not as due; a test takes it over by extending it. */
abstract class Checks {
    static final int NONE = -1, TOO_LARGE = -2, STUCK = -3;
    static final int PREDICTIVE = 0, SIMPLE = 1, MERGED = 2, WHOLE = 3;
    static final int LEFT = 0, RIGHT = 1, NEITHER = 2;
    static final int A = 0, B = 1, C = 2, D = 3, E = 4, F = 5, G = 6, H = 7;
    static final int END = 1 << 8;

    static final Class<IllegalArgumentException> ARGUMENT = IllegalArgumentException.class;
    static final Class<IllegalStateException> STATE = IllegalStateException.class;
    static final Class<IndexOutOfBoundsException> INDEX = IndexOutOfBoundsException.class;

    static final String[] SUMS = {"A:AbB|B", "B:BcC|C", "C:dAe|f"};
    static final String[] POINTERS = {"A:BaC|C", "B:bC|c", "C:B"};
    static final String[] TWINS = {"A:cBa|dBb|cCb|dCa", "B:e", "C:e"};

    private static final int FARTHEST = Integer.MAX_VALUE, LOWEST = Integer.MIN_VALUE;

    private static int wrong;
    private static String where = "";
    /** What an object looks like that was not touched, for each maker that was asked before. */
    private static final Map<Maker, String> UNTOUCHED = new HashMap<>();

    interface Call {
        long of(Grammarsmith x);
    }

    interface Ask {
        long of(Grammarsmith x, int number);
    }

    interface Maker {
        Grammarsmith make();
    }

    // ---- how answers are told

    /** Names what the next checks are about. */
    static void about(String what) {
        where = what;
    }

    /** Names a sentence of the document's terms, and the promises for which it is tried next. */
    static void says(String section, String sentence, int... promises) {
        StringBuilder what = new StringBuilder(section);
        for (int k = 0; k < promises.length; k++) {
            what.append(k == 0 ? ", promise " : " ").append(promises[k]);
        }
        quote(what.toString(), section, sentence);
    }

    /** Names a sentence of a promise that is tried next. */
    static void promise(int number, String sentence) {
        quote("promise " + number, "Promise " + number, sentence);
    }

    private static void quote(String what, String section, String sentence) {
        about(what + ", '" + sentence + "'");
        if (!Document.has(section, sentence)) {
            fail("the document does not say this");
        }
    }

    /** No sentence of a section may be left without a test. */
    static void wholly(String... sections) {
        about("the document");
        for (String section : sections) {
            if (!Document.rest(section).isEmpty()) {
                fail("no test names a sentence of " + section + ": " + Document.rest(section));
            }
        }
    }

    static void fail(String what) {
        wrong++;
        System.out.println(where + ": " + what);
    }

    static void finish() {
        if (wrong > 0) {
            System.out.println(wrong + " answers are not as due");
            System.exit(1);
        }
    }

    static String outcome(Grammarsmith x, Call call) {
        try {
            return Long.toString(call.of(x));
        } catch (RuntimeException thrown) {
            return thrown.getClass().getName();
        }
    }

    static void same(String what, String got, String want) {
        if (!got.equals(want)) {
            fail(what + " answered " + got + ", due is " + want);
        }
    }

    static void due(String what, Grammarsmith x, Call call, long want) {
        same(what, outcome(x, call), Long.toString(want));
    }

    static void dues(String what, Grammarsmith x, Call[] calls, long... wants) {
        for (int k = 0; k < wants.length; k++) {
            due(what + " " + k, x, calls[k], wants[k]);
        }
    }

    /** One answer for each number from 0 on. */
    static void each(String what, Grammarsmith x, Ask ask, long... wants) {
        for (int k = 0; k < wants.length; k++) {
            int number = k;
            due(what + " " + k, x, o -> ask.of(o, number), wants[k]);
        }
    }

    static void refused(String what, Grammarsmith x, Call call, Class<?> want) {
        same(what, outcome(x, call), want.getName());
    }

    /** A call that throws, and of which nothing is to be seen later, be all asked ahead of it or not. */
    static void refusedWithout(String what, Maker maker, Call call, Class<?> want) {
        refused(what, maker.make(), call, want);
        refused(what + ", all asked ahead", asked(maker).make(), call, want);
        unseen(what, maker, call);
    }

    /** A call of which nothing is to be seen later, be all asked ahead of it or not. */
    static void unseen(String what, Maker maker, Call call) {
        String untouched = UNTOUCHED.computeIfAbsent(maker, Sight::of);
        same(what + ", and what stands behind it", Sight.of(() -> touched(maker, call)), untouched);
        Maker asked = asked(maker);
        same(what + ", all asked ahead, and what stands behind it", Sight.of(() -> touched(asked, call)), untouched);
    }

    private static Grammarsmith touched(Maker maker, Call call) {
        Grammarsmith x = maker.make();
        outcome(x, call);
        return x;
    }

    private static Maker asked(Maker maker) {
        return () -> {
            Grammarsmith x = maker.make();
            Sight.tables(x);
            return x;
        };
    }

    /** Numbers from 0 to a last one are taken; those next to them, and far away, are refused and change nothing. */
    static void within(String what, Maker maker, Ask ask, int last, Class<?> want) {
        for (int k = 0; k <= last; k++) {
            int number = k;
            String got = outcome(maker.make(), o -> ask.of(o, number));
            if (got.contains("Exception")) {
                fail(what + " " + k + " answered " + got);
            }
        }
        for (int odd : new int[] {-1, last + 1, FARTHEST, LOWEST}) {
            refusedWithout(what + " " + odd, maker, o -> ask.of(o, odd), want);
        }
    }

    // ---- how objects are made

    static void type(Grammarsmith x, String text) {
        x.wipe();
        for (int k = 0; k < text.length(); k++) {
            x.type(text.charAt(k));
        }
    }

    static void enter(Grammarsmith x, String... rules) {
        for (String rule : rules) {
            type(x, rule);
            x.enter();
        }
    }

    static Grammarsmith with(String... rules) {
        Grammarsmith x = new Grammarsmith();
        enter(x, rules);
        return x;
    }

    /** Rules, and a text that is not entered. */
    static Maker typed(String text, String... rules) {
        return () -> {
            Grammarsmith x = with(rules);
            type(x, text);
            return x;
        };
    }

    /** Rules of the grammar in use, rules of the other one, and a text. */
    static Maker other(String[] rules, String... others) {
        return () -> {
            Grammarsmith x = with(rules);
            x.use(1);
            enter(x, others);
            x.use(0);
            type(x, "H:a");
            return x;
        };
    }

    /** Makes the sentence another one. */
    static Grammarsmith say(Grammarsmith x, String sentence) {
        spoken(x);
        for (int k = 0; k < sentence.length(); k++) {
            x.put(k, sentence.charAt(k) - 'a');
        }
        return x;
    }

    /** The sentence, which is empty then. */
    static String spoken(Grammarsmith x) {
        StringBuilder sentence = new StringBuilder();
        for (String got = outcome(x, o -> o.cut(0)); got.length() == 1; got = outcome(x, o -> o.cut(0))) {
            sentence.append((char) ('a' + got.charAt(0) - '0'));
        }
        return sentence.toString();
    }

    /** Two grammars, levels, a sentence and a text, all of them other than at first. */
    static Grammarsmith rich() {
        Grammarsmith x = with("A:AaA|AbA|c", "B:A?");
        x.start(B);
        x.use(1);
        enter(x, "C:d%e", "A:AbA|Cc");
        x.start(C);
        x.use(0);
        x.level(0, 3, RIGHT);
        x.level(1, 3, NEITHER);
        say(x, "cacbc");
        type(x, "D:(b|c)*");
        return x;
    }

    /** The same, with the other grammar in use. */
    static Grammarsmith richInOther() {
        Grammarsmith x = rich();
        x.use(1);
        return x;
    }

    /** A rule of so many productions, all of them empty. */
    static String bars(int sequences) {
        StringBuilder rule = new StringBuilder("A:");
        for (int k = 1; k < sequences; k++) {
            rule.append('|');
        }
        return rule.toString();
    }

    /** A has the length 97 and that of its last part, which is a or has as many terminals as it is called. */
    static Grammarsmith longer(String last) {
        return with("H:aaaaa", "G:HHHHH", "F:HHHHD", "D:aa", "C:aaa", "B:aaaa", "A:GGGF" + last);
    }

    static Grammarsmith levelled(String... rules) {
        Grammarsmith x = with(rules);
        for (int t = 0; t < 8; t++) {
            x.level(t, 1, LEFT);
        }
        return x;
    }

    /** With 80 states; each letter more has one state more. */
    static Grammarsmith broad() {
        return with("A:aaaaa|abaaa|acaaa", "A:baaaa|bbaaa|bcaaa", "A:caaaa|cbaaa|ccaaa", "A:daaaa|dbaaa|dcaaa",
                "A:eaaaa|ebaaa|ecaaa", "A:faaaa|fbaaa|fcaaa");
    }

    /** Each letter around B has 18 states of WHOLE. */
    static Grammarsmith frames(String frames) {
        return with("A:" + frames, "B:fghfg|gfhgf|hfghf");
    }

    /** With 24 productions. */
    static Grammarsmith crowded() {
        return with("A:aa|ab|ac|ad|ae|af|ag", "A:ba|bb|bc|bd|be|bf|bg", "A:ca|cb|cc|cd|ce|cf|cg", "A:d|e|f");
    }

    // ---- how productions are written

    static String name(int nonterminal) {
        return nonterminal < 8 ? Character.toString((char) ('A' + nonterminal)) : Integer.toString(nonterminal);
    }

    /** The productions, written as the terms write symbols, helpers by their numbers. */
    static String rights(Grammarsmith x) {
        StringBuilder all = new StringBuilder();
        for (int p = 0; p < x.productions(); p++) {
            all.append(name(x.left(p))).append(':');
            for (int place = 0; place < 5; place++) {
                int symbol = x.right(p, place);
                if (symbol == NONE) {
                    break;
                }
                all.append(symbol < 8 ? Character.toString((char) ('a' + symbol)) : name(symbol - 16));
            }
            all.append(' ');
        }
        return all.toString();
    }

    static void becomes(String rule, String want) {
        same(rule, rights(with(rule)), want);
    }

    static int bit(boolean is) {
        return is ? 1 : 0;
    }
}
