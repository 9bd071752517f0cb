import java.util.ArrayList;
import java.util.List;

/**
 * The promises of the document one by one: ordinary inputs, the edges that it names, and wrong
 * inputs. What is due was worked out by hand from the document's words.
 */
public final class PromisesTest extends Checks {
    public static void main(String[] args) {
        Runnable[] promises = {
            PromisesTest::newObject, PromisesTest::type, PromisesTest::wipe, PromisesTest::fault,
            PromisesTest::enter, PromisesTest::undo, PromisesTest::use, PromisesTest::bring,
            PromisesTest::start, PromisesTest::level, PromisesTest::productions, PromisesTest::left,
            PromisesTest::right, PromisesTest::isNullable, PromisesTest::first, PromisesTest::follow,
            PromisesTest::uses, PromisesTest::isLeftRecursive, PromisesTest::shortest,
            PromisesTest::sentence, PromisesTest::size, PromisesTest::conflicts, PromisesTest::settled,
            PromisesTest::chosen, PromisesTest::put, PromisesTest::cut, PromisesTest::parse,
            PromisesTest::value, PromisesTest::readings, PromisesTest::repair};
        for (int k = 0; k < promises.length; k++) {
            about("promise " + (k + 1));
            promises[k].run();
        }
        about("the constants");
        constants();
        finish();
    }

    // ---- rules

    private static void newObject() {
        Grammarsmith used = with("A:a");
        used.start(B);
        used.put(0, 1);
        Grammarsmith x = new Grammarsmith();
        for (int grammar = 0; grammar < 2; grammar++) {
            due("productions", x, Grammarsmith::productions, 0);
            refused("undo", x, Grammarsmith::undo, STATE);
            refused("left", x, o -> o.left(0), INDEX);
            dues("size", x, new Call[] {o -> o.size(0), o -> o.size(1), o -> o.size(2), o -> o.size(3)}, 0, 2, 2, 2);
            dues("parse", x, new Call[] {o -> o.parse(0), o -> o.parse(1), o -> o.parse(2), o -> o.parse(3)},
                    0, 0, 0, 0);
            due("readings", x, Grammarsmith::readings, 0);
            due("repair", x, Grammarsmith::repair, NONE);
            due("start", x, o -> o.start(0), 0);
            int next = 1 - grammar;
            due("use", x, o -> o.use(next), grammar);
        }
        due("fault", x, Grammarsmith::fault, 0);
        due("wipe", x, Grammarsmith::wipe, 0);
        refused("cut", x, o -> o.cut(0), INDEX);
        for (int t = 0; t < 8; t++) {
            int terminal = t;
            due("level", x, o -> o.level(terminal, 0, LEFT), 0);
        }
        due("put", x, o -> o.put(0, 0), 1);
    }

    private static void type() {
        Grammarsmith x = new Grammarsmith();
        String letters = "abcdefghABCDEFGH:|()?*+%";
        for (int k = 0; k < letters.length(); k++) {
            char letter = letters.charAt(k);
            due("type " + letter, x, o -> o.type(letter), k + 1);
        }
        refused("a 25th letter", x, o -> o.type('a'), STATE);
        refused("a 25th letter that is none", x, o -> o.type('i'), ARGUMENT);
        due("what was typed", x, Grammarsmith::wipe, 24);
        String others = "iI`@9/0;,.-&'$#\"!><={}[]\\^_~z \n\u0000\u007f\u00e9\u0161\uffff";
        for (int k = 0; k < others.length(); k++) {
            char letter = others.charAt(k);
            refused("type " + (int) letter, x, o -> o.type(letter), ARGUMENT);
        }
        due("nothing was typed", x, Grammarsmith::wipe, 0);
        Maker rich = Checks::rich;
        refusedWithout("no letter", rich, o -> o.type('i'), ARGUMENT);
        refusedWithout("a 25th letter", () -> {
            Grammarsmith full = rich();
            type(full, "A:a|aa|aaa|aaaa|aaaaa|aa");
            return full;
        }, o -> o.type('b'), STATE);
    }

    private static void wipe() {
        Grammarsmith x = new Grammarsmith();
        due("wipe nothing", x, Grammarsmith::wipe, 0);
        type(x, "A:aa");
        due("wipe", x, Grammarsmith::wipe, 4);
        due("wipe again", x, Grammarsmith::wipe, 0);
        due("type behind it", x, o -> o.type('B'), 1);
        due("fault behind it", x, Grammarsmith::fault, 1);
    }

    private static void faultIs(String text, int want) {
        Grammarsmith x = new Grammarsmith();
        type(x, text);
        due("fault of " + text, x, Grammarsmith::fault, want);
        due("fault again of " + text, x, Grammarsmith::fault, want);
        due("the text stays", x, Grammarsmith::wipe, text.length());
    }

    private static void fault() {
        faultIs("", 0);
        faultIs("A", 1);
        faultIs("a", 0);
        faultIs(":", 0);
        faultIs("(", 0);
        faultIs("AA", 1);
        faultIs("A|", 1);
        String[] rules = {"A:", "H:h", "A:a", "A:B", "A:abcABC", "A:|", "A:||", "A:a||b", "A:a?", "A:a*", "A:B+",
            "A:a%b", "A:B%h", "A:a%bc", "A:a%bB%c", "A:a%b|c", "A:()", "A:(a)", "A:(|)", "A:(a|)?", "A:(|a)%b",
            "A:((a))", "A:()()", "A:(a?|b%c)+", "A:((a)|(b)*)c", "A:(((((((((())))))))))"};
        for (String rule : rules) {
            faultIs(rule, NONE);
        }
        faultIs("A::", 2);
        faultIs("A:a:", 3);
        faultIs("A:aA:", 4);
        faultIs("A:(a:)", 4);
        for (char sign : "?*+%".toCharArray()) {
            faultIs("A:" + sign, 2);
            faultIs("A:|" + sign, 3);
            faultIs("A:(" + sign, 3);
            faultIs("A:a?" + sign, 4);
            faultIs("A:a*" + sign, 4);
            faultIs("A:a+" + sign, 4);
            faultIs("A:a%b" + sign, 5);
            faultIs("A:a%" + sign, 4);
        }
        faultIs("A:a%", 4);
        faultIs("A:a%A", 4);
        faultIs("A:a%(b)", 4);
        faultIs("A:a%|b", 4);
        faultIs("A:(a%)", 5);
        faultIs("A:(", 3);
        faultIs("A:(a", 4);
        faultIs("A:(a|", 5);
        faultIs("A:((a)", 6);
        faultIs("A:((a)%", 7);
        faultIs("A:)", 2);
        faultIs("A:a)", 3);
        faultIs("A:(a))", 5);
        faultIs("A:())(", 4);
        faultIs("A:aaaaaaaaaaaaaaaaaaaaaa", NONE);
        faultIs("A:((((((((((((((((((((((", 24);
        faultIs("A:aaaaaaaaaaaaaaaaaaaaa%", 24);
        faultIs("A:aaaaaaaaaaaaaaaaaaaaa:", 23);
    }

    private static void enter() {
        becomes("A:", "A: ");
        becomes("A:|", "A: A: ");
        becomes("H:abcde", "H:abcde ");
        becomes("B:hAHg|B|", "B:hAHg B:B B: ");
        becomes("A:a?", "8: 8:a A:8 ");
        becomes("A:B?", "8: 8:B A:8 ");
        becomes("A:a*", "8: 8:8a A:8 ");
        becomes("A:a+", "8:a 8:8a A:8 ");
        becomes("A:B+", "8:B 8:8B A:8 ");
        becomes("A:a%b", "8:a 8:8ba A:8 ");
        becomes("A:(a)", "8:a A:8 ");
        becomes("A:(|a|bc)", "8: 8:a 8:bc A:8 ");
        becomes("A:(a|b)?", "8:a 8:b 9: 9:8 A:9 ");
        becomes("A:(a|b)*", "8:a 8:b 9: 9:98 A:9 ");
        becomes("A:(a|b)+", "8:a 8:b 9:8 9:98 A:9 ");
        becomes("A:(A)%h", "8:A 9:8 9:9h8 A:9 ");
        becomes("A:(a(b)c)", "8:b 9:a8c A:9 ");
        becomes("A:(a?b+)d*", "8: 8:a 9:b 9:9b 10:89 11: 11:11d A:1011 ");
        becomes("B:(a|b)*c?|d%e", "8:a 8:b 9: 9:98 10: 10:c 11:d 11:11ed B:910 B:11 ");
        becomes("A:((a)(b))", "8:a 9:b 10:89 A:10 ");
        becomes("A:a?a?", "8: 8:a 9: 9:a A:89 ");
        becomes("A:bc(efg)ab", "8:efg A:bc8ab ");
        same("a second rule", rights(with("A:a?", "B:b?A")), "8: 8:a A:8 9: 9:b B:9A ");
        same("brackets at other places", rights(with("A:ab(c)", "A:(a)b")), "8:c A:ab8 9:a A:9b ");
        Grammarsmith x = new Grammarsmith();
        type(x, "A:a|b");
        due("enter", x, Grammarsmith::enter, 2);
        due("enter the text that stays", x, Grammarsmith::enter, 4);
        due("the text stays", x, Grammarsmith::wipe, 5);
        enterThrows();
        enterToTheBrim();
    }

    private static void enterThrows() {
        String[] noRules = {"", "A", "A:(", "A:a%", "a:a", "A:)", "A:a**"};
        for (String text : noRules) {
            refusedWithout("enter " + text, typed(text, "A:ab", "B:a?"), Grammarsmith::enter, ARGUMENT);
            refused("enter " + text + " into a full grammar", typed(text, bars(22), bars(2)).make(),
                    Grammarsmith::enter, ARGUMENT);
        }
        String[] tooLong = {"A:abcdef", "A:a|abcdef", "A:abcdef|a", "A:(abcdef)", "A:(a|bbbbbb)c", "A:aaaaa(b)",
            "A:aaaaab?", "A:(a)(a)(a)(a)(a)(a)"};
        for (String text : tooLong) {
            refusedWithout("enter " + text, typed(text, "A:ab", "B:a?"), Grammarsmith::enter, STATE);
        }
        Grammarsmith again = typed("A:ab(abcdef)").make();
        refused("a bracket that is too long", again, Grammarsmith::enter, STATE);
        enter(again, "A:(a)b");
        same("brackets behind one that was too long", rights(again), "8:a A:8b ");
        refusedWithout("a 25th production", typed("A:a", bars(22), bars(2)), Grammarsmith::enter, STATE);
        refusedWithout("25 productions", typed("B:a|b", bars(21), bars(2)), Grammarsmith::enter, STATE);
        refusedWithout("25 with a helper", typed("B:a?", bars(20), bars(2)), Grammarsmith::enter, STATE);
        refusedWithout("25 with a bracket", typed("B:(a|b|c)", bars(20), "A:"), Grammarsmith::enter, STATE);
        refusedWithout("a ninth helper", typed("B:a?", "A:a?a?a?a?", "A:(((a)))a+"), Grammarsmith::enter, STATE);
        refusedWithout("a ninth helper for a bracket", typed("B:(a)", "A:a?a?a?a?", "A:(((a)))a+"),
                Grammarsmith::enter, STATE);
        refusedWithout("two more of nine", typed("B:a?(a)", "A:a?a?a?a?", "A:(((a)))"), Grammarsmith::enter, STATE);
    }

    private static void enterToTheBrim() {
        due("24 productions", typed("B:a", bars(22), "A:").make(), Grammarsmith::enter, 24);
        due("24 with a helper", typed("B:a?", bars(20), "A:").make(), Grammarsmith::enter, 24);
        due("eight helpers", typed("B:a?", "A:a?a?a?a?", "A:(((a)))").make(), Grammarsmith::enter, 16);
        due("no helper is needed", typed("B:a", "A:a?a?a?a?", "A:(((a)))a+").make(), Grammarsmith::enter, 16);
        due("five symbols", typed("B:(a)b?cD*E").make(), Grammarsmith::enter, 6);
        Grammarsmith x = with("A:a?a?a?a?", "A:(((a)))a+");
        x.use(1);
        enter(x, "A:a?");
        same("helpers of the other grammar", rights(x), "8: 8:a A:8 ");
    }

    private static void undo() {
        Grammarsmith x = with("A:a|b", "A:a?", "B:(c)");
        due("undo", x, Grammarsmith::undo, 5);
        same("the others", rights(x), "A:a A:b 8: 8:a A:8 ");
        due("enter again", x, Grammarsmith::enter, 7);
        same("the helper again", rights(x), "A:a A:b 8: 8:a A:8 9:c B:9 ");
        dues("undo", x, new Call[] {Grammarsmith::undo, Grammarsmith::undo, Grammarsmith::undo}, 5, 2, 0);
        refused("undo", x, Grammarsmith::undo, STATE);
        due("shortest", x, o -> o.shortest(A), NONE);
        due("enter at last", x, Grammarsmith::enter, 2);
        same("the first helper", rights(x), "8:c B:8 ");
        Grammarsmith rules = new Grammarsmith();
        for (int k = 0; k < 24; k++) {
            enter(rules, "A:");
        }
        refused("a 25th rule", rules, Grammarsmith::enter, STATE);
        due("undo the 24th", rules, Grammarsmith::undo, 23);
        due("undo the 23rd", rules, Grammarsmith::undo, 22);
        Grammarsmith full = with("A:a?a?a?a?", "A:((((a))))");
        full.undo();
        due("helpers are free again", full, Grammarsmith::enter, 14);
        Grammarsmith two = with("A:a");
        two.use(1);
        refused("undo of the other grammar", two, Grammarsmith::undo, STATE);
        two.use(0);
        due("undo there", two, Grammarsmith::undo, 0);
        Grammarsmith brought = with("B:b");
        brought.use(1);
        enter(brought, "A:a|c", "A:a?");
        brought.use(0);
        brought.bring(2);
        due("undo of the rule brought last", brought, Grammarsmith::undo, 3);
        same("the rules ahead of it", rights(brought), "B:b C:a C:c ");
        refusedWithout("undo", () -> {
            Grammarsmith none = rich();
            none.undo();
            none.undo();
            return none;
        }, Grammarsmith::undo, STATE);
    }

    private static void use() {
        Grammarsmith x = with("A:aA|b");
        x.start(B);
        due("use 0", x, o -> o.use(0), 0);
        due("use 1", x, o -> o.use(1), 0);
        due("productions of 1", x, Grammarsmith::productions, 0);
        due("first of 1", x, o -> o.first(A), 0);
        due("size of 1", x, o -> o.size(SIMPLE), 2);
        due("start of 1", x, o -> o.start(C), A);
        enter(x, "A:c");
        due("first of 1", x, o -> o.first(A), 4);
        due("use 1 again", x, o -> o.use(1), 1);
        due("use 0", x, o -> o.use(0), 1);
        due("first of 0", x, o -> o.first(A), 3);
        due("productions of 0", x, Grammarsmith::productions, 2);
        due("start of 0", x, o -> o.start(A), B);
        due("size of 0", x, o -> o.size(SIMPLE), 5);
        say(x, "c");
        due("the sentence in 0", x, o -> o.parse(SIMPLE), 0);
        x.use(1);
        due("start of 1", x, o -> o.start(A), C);
        due("the sentence in 1", x, o -> o.parse(SIMPLE), NONE);
        for (int grammar : new int[] {-1, 2, Integer.MAX_VALUE, Integer.MIN_VALUE}) {
            refusedWithout("use " + grammar, Checks::rich, o -> o.use(grammar), INDEX);
        }
        x.level(0, 4, RIGHT);
        x.use(0);
        due("levels are of both", x, o -> o.level(0, 0, LEFT), 4);
    }

    private static void bring() {
        Grammarsmith x = with("B:(b)");
        due("bring nothing", x, o -> o.bring(3), 0);
        x.use(1);
        enter(x, "A:BbA|c%d", "H:(AH)*");
        type(x, "C:");
        x.start(D);
        x.use(0);
        x.start(E);
        due("bring", x, o -> o.bring(1), 2);
        same("with other names", rights(x), "8:b B:8 9:c 9:9dc B:CbB B:9 10:BA 11: 11:1110 A:11 ");
        due("the text stays", x, Grammarsmith::wipe, 2);
        due("the start stays", x, o -> o.start(A), E);
        due("bring again", x, o -> o.bring(0), 2);
        due("productions", x, Grammarsmith::productions, 18);
        due("undo", x, Grammarsmith::undo, 14);
        x.use(1);
        same("the other grammar", rights(x), "8:c 8:8dc A:BbA A:8 9:AH 10: 10:109 H:10 ");
        due("its start", x, o -> o.start(A), D);
        due("bring back", x, o -> o.bring(7), 4);
        same("a rule that was brought is brought", rights(x), "8:c 8:8dc A:BbA A:8 9:AH 10: 10:109 H:10 "
                + "11:b A:11 12:c 12:12dc A:BbA A:12 13:AH 14: 14:1413 H:14 15:c 15:15dc H:AbH H:15 ");
        bringThrows();
    }

    private static void bringThrows() {
        for (int shift : new int[] {-1, 8, 9, Integer.MAX_VALUE, Integer.MIN_VALUE}) {
            refusedWithout("bring " + shift, Checks::rich, o -> o.bring(shift), ARGUMENT);
        }
        String[] most = {bars(22), "A:"};
        refused("bring 8 into a full grammar", other(most, "A:", "A:").make(), o -> o.bring(8), ARGUMENT);
        due("one fits", other(most, "A:").make(), o -> o.bring(0), 1);
        refusedWithout("two do not", other(most, "A:", "A:"), o -> o.bring(0), STATE);
        refusedWithout("a second of two productions", other(new String[] {bars(22)}, "A:", "B:|"),
                o -> o.bring(1), STATE);
        String[] helpers = {"A:a?a?a?", "A:(((a)))"};
        due("two helpers", other(helpers, "A:a?", "A:a?").make(), o -> o.bring(0), 2);
        refusedWithout("three helpers", other(helpers, "A:a?", "A:a?", "A:(a)"), o -> o.bring(0), STATE);
        due("nothing into a full grammar", other(new String[] {bars(22), "A:|"}).make(), o -> o.bring(0), 0);
    }

    private static void start() {
        Grammarsmith x = with("A:a", "B:Ab");
        due("follow", x, o -> o.follow(A), END + 2);
        due("start", x, o -> o.start(B), A);
        due("follow", x, o -> o.follow(A), 2);
        due("follow", x, o -> o.follow(B), END);
        due("start", x, o -> o.start(H), B);
        due("follow", x, o -> o.follow(H), END);
        due("size", x, o -> o.size(WHOLE), 2);
        due("start", x, o -> o.start(A), H);
        due("size", x, o -> o.size(WHOLE), 3);
        for (int nonterminal : new int[] {-1, 8, 15, 16, Integer.MAX_VALUE, Integer.MIN_VALUE}) {
            refusedWithout("start " + nonterminal, Checks::rich, o -> o.start(nonterminal), INDEX);
        }
    }

    private static void level() {
        Grammarsmith x = new Grammarsmith();
        for (int t = 0; t < 8; t++) {
            int terminal = t;
            due("level at first", x, o -> o.level(terminal, 5 - terminal % 6, terminal % 3), 0);
        }
        for (int t = 0; t < 8; t++) {
            int terminal = t;
            due("level before", x, o -> o.level(terminal, 0, RIGHT), 5 - terminal % 6);
        }
        for (int odd : new int[] {-1, 8, Integer.MAX_VALUE, Integer.MIN_VALUE}) {
            refusedWithout("terminal " + odd, Checks::rich, o -> o.level(odd, 1, LEFT), INDEX);
            refusedWithout("side " + odd, Checks::rich, o -> o.level(0, 1, odd), INDEX);
            refusedWithout("level " + odd, Checks::rich, o -> o.level(0, odd, LEFT), ARGUMENT);
            refused("terminal and level " + odd, x, o -> o.level(odd, odd, LEFT), INDEX);
            refused("level and side " + odd, x, o -> o.level(0, odd, odd), INDEX);
        }
        refused("side 3", x, o -> o.level(0, 0, 3), INDEX);
        refused("level 6", x, o -> o.level(0, 6, 0), ARGUMENT);
        due("nothing was set", x, o -> o.level(0, 0, LEFT), 0);
        Grammarsmith sides = say(with("A:AbA|a"), "ababa");
        sides.level(1, 1, LEFT);
        due("LEFT", sides, o -> o.value(SIMPLE), 31);
        sides.level(1, 5, RIGHT);
        due("RIGHT", sides, o -> o.value(SIMPLE), 59);
        sides.level(1, 1, NEITHER);
        due("NEITHER", sides, o -> o.parse(SIMPLE), 3);
        sides.level(1, 0, LEFT);
        due("without a level", sides, o -> o.value(SIMPLE), 59);
    }

    private static void productions() {
        Grammarsmith x = new Grammarsmith();
        due("productions at first", x, Grammarsmith::productions, 0);
        enter(x, "A:a|b");
        due("productions", x, Grammarsmith::productions, 2);
        enter(x, "A:(a|b|)*");
        due("productions with helpers", x, Grammarsmith::productions, 8);
        x.undo();
        due("productions", x, Grammarsmith::productions, 2);
        enter(x, bars(22));
        due("24 productions", x, Grammarsmith::productions, 24);
        x.use(1);
        due("productions of 1", x, Grammarsmith::productions, 0);
    }

    private static void left() {
        Grammarsmith x = with("B:b", "H:a?|b");
        dues("left", x, new Call[] {o -> o.left(0), o -> o.left(1), o -> o.left(2), o -> o.left(3), o -> o.left(4)},
                B, 8, 8, H, H);
        for (int production : new int[] {-1, 5, 24, Integer.MAX_VALUE, Integer.MIN_VALUE}) {
            refusedWithout("left " + production, Checks::rich, o -> o.left(production == 5 ? 6 : production),
                    INDEX);
            refused("left " + production, x, o -> o.left(production), INDEX);
        }
        x.undo();
        refused("left of what was taken away", x, o -> o.left(1), INDEX);
        x.use(1);
        refused("left in 1", x, o -> o.left(0), INDEX);
    }

    private static void right() {
        Grammarsmith x = with("A:aBHh(c)", "A:");
        Call[] places = {o -> o.right(1, 0), o -> o.right(1, 1), o -> o.right(1, 2), o -> o.right(1, 3),
            o -> o.right(1, 4)};
        dues("right", x, places, 0, 17, 23, 7, 24);
        Call[] empty = {o -> o.right(2, 0), o -> o.right(2, 4), o -> o.right(0, 0), o -> o.right(0, 1)};
        dues("fewer symbols", x, empty, NONE, NONE, 2, NONE);
        for (int odd : new int[] {-1, 5, 24, Integer.MAX_VALUE, Integer.MIN_VALUE}) {
            refused("right of place " + odd, x, o -> o.right(0, odd), INDEX);
            refused("right of production " + odd, x, o -> o.right(odd, 0), INDEX);
        }
        refused("right of production 3", x, o -> o.right(3, 0), INDEX);
        x.undo();
        refused("right of what was taken away", x, o -> o.right(2, 0), INDEX);
        refusedWithout("right", Checks::rich, o -> o.right(0, 5), INDEX);
    }

    // ---- what is found

    /** A number for each of the nonterminals from A on. */
    private static void all(String what, Grammarsmith x, Ask finder, long... wants) {
        for (int n = 0; n < wants.length; n++) {
            int nonterminal = n;
            due(what + " of " + name(n), x, o -> finder.of(o, nonterminal), wants[n]);
        }
        for (int odd : new int[] {-1, 16, 17, Integer.MAX_VALUE, Integer.MIN_VALUE}) {
            refused(what + " of " + odd, x, o -> finder.of(o, odd), INDEX);
            refusedWithout(what + " of " + odd, Checks::rich, o -> finder.of(o, odd), INDEX);
        }
    }

    private static void isNullable() {
        Ask finder = (x, n) -> bit(x.isNullable(n));
        all("nullable", with("A:BC", "B:b|", "C:cC|B", "D:BaC", "E:DE|F", "F:FA|H"), finder,
                1, 1, 1, 0, 0, 0, 0, 0, 0, 0, 0, 0, 0, 0, 0, 0);
        all("helpers", with("A:a?b*c+d%e(|f)"), finder, 0, 0, 0, 0, 0, 0, 0, 0, 1, 1, 0, 0, 1, 0, 0, 0);
        Grammarsmith x = with("A:BCDEF", "B:", "C:", "D:", "E:", "F:");
        due("five nullable ones", x, o -> finder.of(o, A), 1);
        x.undo();
        due("four of five", x, o -> finder.of(o, A), 0);
    }

    private static void first() {
        Ask finder = Grammarsmith::first;
        all("first", with("A:BCd|e", "B:b|", "C:cC|B"), finder, 30, 2, 6, 0, 0, 0, 0, 0, 0, 0, 0, 0, 0, 0, 0, 0);
        all("without an end", with("A:hA", "B:CaB", "C:g?"), finder, 128, 65, 64);
        all("left recursive", with("A:Ab|Ba", "B:Ac|d|"), finder, 9, 9);
        all("left recursive and nullable", with("A:Ab|B", "B:Ac|d|"), finder, 14, 14);
        all("behind one that derives nothing at all", with("A:Ba", "B:C", "C:Cb"), finder, 0, 0, 0);
        all("behind nullable ones", with("A:BBBBh", "B:a|"), finder, 129, 1);
    }

    private static void follow() {
        Ask finder = Grammarsmith::follow;
        all("follow", with("A:BCd|e", "B:b|", "C:cC|B"), finder,
                END, 14, 8, 0, 0, 0, 0, 0, 0, 0, 0, 0, 0, 0, 0, 0);
        all("useless ones count", with("A:a", "B:CaAD", "C:CB"), finder, END, 1, 1, 1);
        all("without rules", new Grammarsmith(), finder, END, 0, 0);
        all("the end through nullable ones", with("A:BCD", "B:b", "C:c|", "D:d?"), finder,
                END, END + 12, END + 8, END, 0, 0, 0, 0, END);
        all("list", with("A:B%h"), finder, END, END + 128, 0, 0, 0, 0, 0, 0, END + 128);
        Grammarsmith x = with("A:Ba", "B:b", "C:BcC");
        x.start(C);
        all("another start", x, finder, 0, 5, END);
    }

    private static void uses() {
        Ask finder = Grammarsmith::uses;
        all("uses", with("A:aB|c", "B:CD", "C:c", "E:a", "F:F", "G:aE"), finder,
                3, 2, 3, 2, 1, 0, 1, 0, 0, 0, 0, 0, 0, 0, 0, 0);
        all("through unproductive ones", with("A:B", "B:CB", "C:|D"), finder, 2, 2, 3, 2);
        Grammarsmith x = with("A:aB", "B:b");
        x.start(B);
        all("another start", x, finder, 1, 3);
        x.start(H);
        all("a start without rules", x, finder, 1, 1, 0, 0, 0, 0, 0, 2);
        all("helpers", with("B:a?", "A:c"), finder, 3, 1, 0, 0, 0, 0, 0, 0, 1, 0);
        Grammarsmith chain = with("D:Ca", "C:A", "A:B", "B:E");
        chain.start(D);
        all("far away", chain, finder, 2, 2, 2, 2, 2, 0);
        due("undo", chain, Grammarsmith::undo, 3);
        all("no longer reached", chain, finder, 2, 2, 2, 2, 0, 0);
    }

    private static void isLeftRecursive() {
        Ask finder = (x, n) -> bit(x.isLeftRecursive(n));
        all("left recursive", with("A:Aa|b", "B:bB", "C:Da", "D:Eb", "E:Cc|A", "F:A", "G:H", "H:HH"), finder,
                1, 0, 1, 1, 1, 0, 0, 1, 0, 0, 0, 0, 0, 0, 0, 0);
        all("behind nullable ones", with("A:BBAc|a", "B:|b", "C:DCc", "D:d", "E:EE", "F:BDF"), finder,
                1, 0, 0, 0, 1, 0);
        all("repetitions", with("A:a*b+c?d%e(f)"), finder, 0, 0, 0, 0, 0, 0, 0, 0, 1, 1, 0, 1, 0);
        all("in one step", with("A:A"), finder, 1);
        Grammarsmith x = with("B:A", "A:C", "C:Bc");
        all("through others", x, finder, 1, 1, 1, 0);
        x.undo();
        all("no longer", x, finder, 0, 0, 0, 0);
    }

    private static void shortest() {
        Ask finder = Grammarsmith::shortest;
        all("shortest", with("A:aBc|CC", "B:|b", "C:cc|ccc", "D:aD", "E:DA|AA", "F:B"), finder,
                2, 0, 2, NONE, 4, 0, NONE, NONE, NONE, NONE, NONE, NONE, NONE, NONE, NONE, NONE);
        all("helpers", with("A:a+b%cd?e*(fg)"), finder, 4, NONE, NONE, NONE, NONE, NONE, NONE, NONE, 1, 1, 0, 0, 2);
        due("98", longer("a"), o -> o.shortest(A), 98);
        due("99", longer("D"), o -> o.shortest(A), 99);
        due("100", longer("C"), o -> o.shortest(A), 99);
        Grammarsmith later = longer("H");
        due("102", later, o -> o.shortest(A), 99);
        enter(later, "A:GGGG", "E:AA|A", "G:hhhhh");
        due("a shorter one later", later, o -> o.shortest(A), 20);
        due("a shorter one later", later, o -> o.shortest(E), 20);
    }

    private static void spells(String what, Grammarsmith x, int nonterminal, String want) {
        due("length of " + what, x, o -> o.shortest(nonterminal), want.length());
        for (int k = 0; k < want.length(); k++) {
            int place = k;
            due(what + " at " + k, x, o -> o.sentence(nonterminal, place), want.charAt(k) - 'a');
        }
        refused(what + " behind its end", x, o -> o.sentence(nonterminal, want.length()), STATE);
        refused(what + " far behind its end", x, o -> o.sentence(nonterminal, Integer.MAX_VALUE), STATE);
        refused(what + " ahead of it", x, o -> o.sentence(nonterminal, -1), INDEX);
    }

    private static void sentence() {
        spells("the shorter one", with("A:h|ab"), A, "h");
        spells("the first of two", with("A:ba|ab"), A, "ab");
        spells("the first of many", with("A:BC|DE", "B:cb|bc", "C:g", "D:bc", "E:h|f"), A, "bcf");
        spells("first by letters, not by parts", with("A:BC", "B:b|ba", "C:a|"), A, "b");
        spells("parts of several lengths", with("A:Bc|bC", "B:ba|bb", "C:ab|aa"), A, "baa");
        spells("over a circle", with("A:B|c", "B:A|b", "C:Aa"), A, "b");
        spells("over a circle", with("A:B|c", "B:A|b", "C:Aa"), C, "ba");
        spells("through others", with("A:B", "B:C", "C:h", "D:d"), A, "h");
        spells("nothing", with("A:a*"), A, "");
        spells("a helper's", with("A:(h|gf)%e"), 9, "h");
        spells("20", with("A:BBBBB", "B:hcbh|hcaf"), A, "hcafhcafhcafhcafhcaf");
        spells("20 h", with("A:BBBBB", "B:hhhh"), A, "hhhhhhhhhhhhhhhhhhhh");
        spells("20 a", with("A:BBBBB", "B:aaaa"), A, "aaaaaaaaaaaaaaaaaaaa");
        Grammarsmith changing = with("A:b");
        due("asked first", changing, o -> o.sentence(A, 0), 1);
        enter(changing, "A:a");
        due("asked first behind enter", changing, o -> o.sentence(A, 0), 0);
        changing.use(1);
        refused("asked first behind use", changing, o -> o.sentence(A, 0), STATE);
        Grammarsmith x = with("A:BBBBC", "B:aaaa", "C:Bb", "D:aD");
        refused("21", x, o -> o.sentence(A, 0), STATE);
        refused("not productive", x, o -> o.sentence(D, 0), STATE);
        refused("without productions", x, o -> o.sentence(15, 0), STATE);
        for (int odd : new int[] {-1, 16, Integer.MAX_VALUE, Integer.MIN_VALUE}) {
            refusedWithout("of " + odd, Checks::rich, o -> o.sentence(odd, 0), INDEX);
        }
        refused("of 16 and ahead", x, o -> o.sentence(16, -1), INDEX);
        refused("not productive, and ahead", x, o -> o.sentence(D, -1), INDEX);
        refused("not productive, and ahead", x, o -> o.sentence(D, Integer.MIN_VALUE), INDEX);
        refusedWithout("behind its end", Checks::rich, o -> o.sentence(A, 1), STATE);
    }

    // ---- tables

    private static void noKinds(String what, Ask finder) {
        for (int odd : new int[] {-1, 4, Integer.MAX_VALUE, Integer.MIN_VALUE}) {
            refusedWithout(what + ", kind " + odd, Checks::rich, o -> finder.of(o, odd), INDEX);
        }
    }

    private static void size() {
        Ask finder = Grammarsmith::size;
        each("no rules", new Grammarsmith(), finder, 0, 2, 2, 2);
        each("sums", with(SUMS), finder, 6, 12, 12, 22);
        each("pointers", with(POINTERS), finder, 6, 10, 10, 14);
        each("twins", with(TWINS), finder, 4, 13, 13, 14);
        each("a list", with("A:aA|b"), finder, 2, 5, 5, 5);
        each("nothing", with("A:"), finder, 1, 2, 2, 2);
        each("with nullable ones", with("A:Bb", "B:a|"), finder, 4, 5, 5, 5);
        each("useless ones", with("A:a", "B:bBc|"), finder, 3, 3, 3, 3);
        each("nothing behind it", with("A:BC", "B:b"), finder, 2, 5, 5, 5);
        Grammarsmith broad = broad();
        each("80 states", broad, finder, 6, 80, 80, 80);
        enter(broad, "A:g");
        each("81 states", broad, finder, 7, TOO_LARGE, TOO_LARGE, TOO_LARGE);
        broad.undo();
        each("80 states again", broad, finder, 6, 80, 80, 80);
        enter(broad, "A:h");
        each("81 states again", broad, finder, 7, TOO_LARGE, TOO_LARGE, TOO_LARGE);
        broad.use(1);
        enter(broad, "A:a");
        each("few states behind many", broad, finder, 1, 3, 3, 3);
        each("24 productions", crowded(), finder, 6, 29, 29, 29);
        each("four frames", frames("aBa|bBb|cBc|dBd"), finder, 7, 29, 29, 74);
        each("five frames", frames("aBa|bBb|cBc|dBd|eBe"), finder, 8, 32, 32, TOO_LARGE);
        Grammarsmith x = with("A:a");
        each("levels are nothing to it", x, finder, 1, 3, 3, 3);
        x.start(B);
        each("another start", x, finder, 1, 2, 2, 2);
        noKinds("size", finder);
    }

    private static void conflicts() {
        Ask finder = Grammarsmith::conflicts;
        each("no rules", new Grammarsmith(), finder, 0, 0, 0, 0);
        each("sums", with(SUMS), finder, 4, 0, 0, 0);
        each("pointers", with(POINTERS), finder, 2, 1, 0, 0);
        each("twins", with(TWINS), finder, 2, 2, 2, 0);
        each("two operators", with("A:AaA|AbA|c"), finder, 1, 4, 4, 4);
        each("twice the same", with("A:a|a"), finder, 1, 1, 1, 1);
        each("a circle", with("A:A|a"), finder, 1, 1, 1, 1);
        each("twice nothing", with("A:|"), finder, 1, 1, 1, 1);
        each("nothing or more", with("A:Ba", "B:a|"), finder, 1, 1, 1, 1);
        each("the same in useless ones", with("A:a", "B:b|b"), finder, 1, 0, 0, 0);
        Grammarsmith broad = broad();
        each("80 states", broad, finder, 6, 0, 0, 0);
        enter(broad, "A:g");
        each("81 states", broad, finder, 6, TOO_LARGE, TOO_LARGE, TOO_LARGE);
        each("24 productions", crowded(), finder, 3, 0, 0, 0);
        Grammarsmith x = with("A:AaA|AbA|c");
        x.level(0, 1, LEFT);
        x.level(1, 2, NEITHER);
        each("settled ones", x, finder, 1, 4, 4, 4);
        noKinds("conflicts", finder);
    }

    private static void settled() {
        Ask finder = Grammarsmith::settled;
        Grammarsmith x = with("A:AaA|AbA|c");
        each("without levels", x, finder, 0, 0, 0, 0);
        x.level(0, 1, LEFT);
        each("one level", x, finder, 0, 1, 1, 1);
        x.level(2, 5, LEFT);
        each("a level of another terminal", x, finder, 0, 1, 1, 1);
        x.level(1, 1, RIGHT);
        each("both levels", x, finder, 0, 4, 4, 4);
        x.level(1, 5, NEITHER);
        each("other levels", x, finder, 0, 4, 4, 4);
        x.level(0, 0, LEFT);
        each("one level", x, finder, 0, 1, 1, 1);
        Grammarsmith thrice = levelled("A:AaA|AaA|c");
        each("three actions", thrice, finder, 0, 0, 0, 0);
        each("two reductions", levelled("A:Ba|Ca", "B:b", "C:b"), finder, 0, 0, 0, 0);
        each("accepting", levelled("A:A|a"), finder, 0, 0, 0, 0);
        each("no terminal in the production", levelled("A:AA|a"), finder, 0, 0, 0, 0);
        each("nothing in the production", levelled("A:Ba", "B:a|"), finder, 0, 0, 0, 0);
        Grammarsmith last = with("A:AaAbA|c");
        last.level(0, 1, RIGHT);
        each("the first terminal of the production", last, finder, 0, 0, 0, 0);
        last.level(1, 2, RIGHT);
        each("the last terminal of the production", last, finder, 0, 1, 1, 2);
        Grammarsmith ahead = with("A:bA|AaA|c");
        ahead.level(0, 2, LEFT);
        each("the terminal of one production", ahead, finder, 0, 1, 1, 1);
        ahead.level(1, 2, LEFT);
        each("a terminal ahead in the other", ahead, finder, 0, 2, 2, 2);
        each("a terminal at the end", levelled("A:Bbc|abd", "B:a"), finder, 0, 1, 1, 1);
        Grammarsmith broad = levelled();
        enter(broad, "A:aaaaa|abaaa|acaaa", "A:baaaa|bbaaa|bcaaa", "A:caaaa|cbaaa|ccaaa", "A:daaaa|dbaaa|dcaaa",
                "A:eaaaa|ebaaa|ecaaa", "A:faaaa|fbaaa|fcaaa", "A:g");
        each("81 states", broad, finder, 0, TOO_LARGE, TOO_LARGE, TOO_LARGE);
        noKinds("settled", finder);
    }

    private static void chosen() {
        due("no rules", new Grammarsmith(), Grammarsmith::chosen, PREDICTIVE);
        due("a list", with("A:aA|b"), Grammarsmith::chosen, PREDICTIVE);
        due("sums", with(SUMS), Grammarsmith::chosen, SIMPLE);
        due("pointers", with(POINTERS), Grammarsmith::chosen, MERGED);
        due("twins", with(TWINS), Grammarsmith::chosen, WHOLE);
        Grammarsmith x = with("A:AaA|AbA|c");
        due("conflicts", x, Grammarsmith::chosen, NONE);
        x.level(0, 1, LEFT);
        due("conflicts, one settled", x, Grammarsmith::chosen, NONE);
        x.level(1, 1, NEITHER);
        due("conflicts, all settled", x, Grammarsmith::chosen, SIMPLE);
        Grammarsmith broad = broad();
        due("80 states", broad, Grammarsmith::chosen, SIMPLE);
        enter(broad, "A:g");
        due("81 states", broad, Grammarsmith::chosen, NONE);
        due("WHOLE too large", frames("aBa|bBb|cBc|dBd|eBe"), Grammarsmith::chosen, PREDICTIVE);
    }

    // ---- the sentence

    private static void put() {
        Grammarsmith x = new Grammarsmith();
        due("put", x, o -> o.put(0, 1), 1);
        due("put at the end", x, o -> o.put(1, 2), 2);
        due("put ahead", x, o -> o.put(0, 7), 3);
        due("put between", x, o -> o.put(1, 0), 4);
        refused("put behind the end", x, o -> o.put(5, 0), INDEX);
        same("the sentence", spoken(x), "habc");
        for (int k = 0; k < 12; k++) {
            int place = k;
            due("put", x, o -> o.put(place, place % 8), place + 1);
        }
        Maker full = () -> say(rich(), "abcdefghabcd");
        refusedWithout("a 13th terminal", full, o -> o.put(0, 0), STATE);
        refusedWithout("a 13th terminal at the end", full, o -> o.put(12, 0), STATE);
        for (int odd : new int[] {-1, 13, Integer.MAX_VALUE, Integer.MIN_VALUE}) {
            refusedWithout("put at " + odd, Checks::rich, o -> o.put(odd, 0), INDEX);
            refusedWithout("put " + odd, Checks::rich, o -> o.put(0, odd == 13 ? 8 : odd), INDEX);
            refusedWithout("put at " + odd + " into a full one", full, o -> o.put(odd, 0), INDEX);
            refusedWithout("put " + odd + " into a full one", full, o -> o.put(0, odd), INDEX);
        }
        same("twelve", spoken(x), "abcdefghabcd");
        Grammarsmith both = say(with("A:b"), "b");
        both.use(1);
        enter(both, "A:c");
        due("the sentence is of both", both, o -> o.parse(SIMPLE), 0);
    }

    private static void cut() {
        Grammarsmith x = say(new Grammarsmith(), "abcdefghabcd");
        due("cut the first", x, o -> o.cut(0), 0);
        due("cut the last", x, o -> o.cut(10), 3);
        due("cut between", x, o -> o.cut(4), 5);
        refused("cut at the end", x, o -> o.cut(9), INDEX);
        due("put", x, o -> o.put(9, 7), 10);
        same("the sentence", spoken(x), "bcdeghabch");
        refused("cut nothing", x, o -> o.cut(0), INDEX);
        for (int odd : new int[] {-1, 5, 12, 13, Integer.MAX_VALUE, Integer.MIN_VALUE}) {
            refusedWithout("cut " + odd, Checks::rich, o -> o.cut(odd), INDEX);
        }
        Grammarsmith end = say(with("A:ab"), "abc");
        end.cut(2);
        each("what was cut is gone", end, Grammarsmith::parse, NONE, NONE, NONE, NONE);
        Grammarsmith whole = say(with("A:abcdA|"), "abcdabcdabcd");
        each("twelve", whole, Grammarsmith::parse, NONE, NONE, NONE, NONE);
        whole.cut(11);
        each("eleven", whole, Grammarsmith::parse, 11, 11, 11, 11);
    }

    private static void parsed(Grammarsmith x, String sentence, long... wants) {
        say(x, sentence);
        each("parse " + sentence, x, Grammarsmith::parse, wants);
    }

    private static void parse() {
        Grammarsmith list = with("A:aA|b");
        parsed(list, "aab", NONE, NONE, NONE, NONE);
        parsed(list, "", 0, 0, 0, 0);
        parsed(list, "aa", 2, 2, 2, 2);
        parsed(list, "ac", 1, 1, 1, 1);
        parsed(list, "ba", 1, 1, 1, 1);
        parsed(list, "h", 0, 0, 0, 0);
        Grammarsmith sums = with(SUMS);
        parsed(sums, "fbfcf", STUCK, NONE, NONE, NONE);
        parsed(sums, "dfbfecf", STUCK, NONE, NONE, NONE);
        parsed(sums, "fbcf", STUCK, 2, 2, 2);
        parsed(sums, "dfbf", STUCK, 4, 4, 4);
        parsed(sums, "bf", 0, 0, 0, 0);
        Grammarsmith twins = with(TWINS);
        parsed(twins, "cea", NONE, NONE, NONE, NONE);
        parsed(twins, "dea", 2, 2, 2, NONE);
        parsed(twins, "ceb", 2, 2, 2, NONE);
        Grammarsmith pointers = with(POINTERS);
        parsed(pointers, "bcac", NONE, NONE, NONE, NONE);
        parsed(pointers, "bc", 2, NONE, NONE, NONE);
        parsed(pointers, "bca", 3, 3, 3, 3);
        parsed(pointers, "cacac", 3, 3, 3, 3);
        Grammarsmith nulls = with("A:BCd", "B:b|", "C:c*");
        parsed(nulls, "d", NONE, NONE, NONE, NONE);
        parsed(nulls, "bccd", 1, NONE, NONE, NONE);
        parsed(nulls, "bccb", 1, 3, 3, 3);
        Grammarsmith frames = frames("aBa|bBb|cBc|dBd|eBe");
        parsed(frames, "afghfga", NONE, NONE, NONE, TOO_LARGE);
        parsed(frames, "afghfgb", 6, 6, 6, TOO_LARGE);
        Grammarsmith crowded = crowded();
        parsed(crowded, "cg", 1, NONE, NONE, NONE);
        parsed(crowded, "f", NONE, NONE, NONE, NONE);
        parsed(crowded, "", 0, 0, 0, 0);
        parseConflicts();
        parseAtLength();
        parseInMergedStates();
        parseWithManyStates();
        noKinds("parse", Grammarsmith::parse);
    }

    /** SIMPLE reduces over what is behind a left anywhere, MERGED and WHOLE over what is behind it there. */
    private static void parseInMergedStates() {
        Grammarsmith x = with("A:aBb|cBd", "B:");
        parsed(x, "ad", 1, 1, 1, 1);
        Grammarsmith loop = with("A:aBb|c", "B:Be|", "C:Bh");
        parsed(loop, "ab", NONE, NONE, NONE, NONE);
        parsed(loop, "aeb", STUCK, NONE, NONE, NONE);
        parsed(loop, "ah", 1, 1, 1, 1);
    }

    private static void parseConflicts() {
        parsed(with("A:A|a"), "a", STUCK, NONE, NONE, NONE);
        parsed(with("A:a|A"), "a", NONE, NONE, NONE, NONE);
        parsed(with("A:Ba|C", "B:a|", "C:a"), "a", 1, NONE, NONE, NONE);
        parsed(with("A:Ba", "B:|a"), "aa", 1, NONE, NONE, NONE);
        parsed(with("A:Ba", "B:|a"), "a", NONE, 1, 1, 1);
        parsed(with("A:Bc|Cd", "B:a", "C:a"), "ad", 1, NONE, NONE, NONE);
        parsed(with("A:Bc|Cc|Cd", "B:a", "C:a"), "ac", NONE, NONE, NONE, NONE);
        Grammarsmith none = with("A:AbA|a");
        none.level(1, 2, NEITHER);
        parsed(none, "ababa", STUCK, 3, 3, 3);
        parsed(none, "aba", STUCK, NONE, NONE, NONE);
        Grammarsmith endless = with("A:BAa|a", "B:");
        parsed(endless, "a", STUCK, NONE, NONE, NONE);
        parsed(endless, "b", 0, 0, 0, 0);
        Grammarsmith other = with("A:BAa|b", "B:");
        parsed(other, "ba", STUCK, 1, 1, 1);
    }

    /** Trees of which every step is to be counted: D has 1, C 6, B 31, A 156, and F with the last part all. */
    private static Grammarsmith counted(String last) {
        Grammarsmith x = with("D:", "C:DDDDD", "B:CCCCC", "A:BBBBB", "G:" + last, "F:ABBBG", "H:Fa");
        x.start(F);
        return x;
    }

    private static void parseAtLength() {
        Grammarsmith most = counted("BCCC");
        parsed(most, "", NONE, NONE, NONE, NONE);
        parsed(most, "a", 0, 0, 0, 0);
        Grammarsmith more = counted("BCCCD");
        parsed(more, "", STUCK, STUCK, STUCK, STUCK);
        parsed(more, "a", STUCK, STUCK, 0, 0);
        Grammarsmith shifts = with("D:", "C:DDDDD", "B:CCCCC", "A:BBBBB", "G:BCC", "F:EBBBG", "E:Aaaaa");
        shifts.start(F);
        parsed(shifts, "aaaa", NONE, NONE, NONE, NONE);
        enter(shifts, "C:g");
        parsed(shifts, "aaa", 3, 3, 3, 3);
    }

    /** With 42 empty ones ahead of each a, the states that a parser has come over are 300 at a seventh. */
    private static void parseWithManyStates() {
        String[] rules = {"A:BBBBC", "C:BBBBD", "D:BBBBE", "E:BBBB(BBBBG)", "G:BBBB(BBBB(BBBBH))",
            "H:BBBB(BBBB(BBaA))", "B:", "F:Bb"};
        Grammarsmith x = with(rules);
        parsed(x, "aaaaaab", STUCK, 6, 6, 6);
        parsed(x, "aaaaaaab", STUCK, STUCK, STUCK, STUCK);
        x.undo();
        parsed(x, "aaaaaa", STUCK, 6, 6, 6);
        parsed(x, "aaaaa", 5, 5, 5, 5);
    }

    private static void value() {
        Ask finder = Grammarsmith::value;
        each("nothing", with("A:"), finder, 1, 1, 1, 1);
        each("five parts", say(with("A:abcde"), "abcde"), finder, 56, 56, 56, 56);
        each("a later production", say(with("B:", "A:hBh"), "hh"), finder, 36, 36, 36, 36);
        Grammarsmith list = with("A:aA|b");
        int[] wants = {4, 10, 22, 46, 94, 190, 382, 766, 525, 43, 88, 178};
        StringBuilder sentence = new StringBuilder("b");
        for (int want : wants) {
            each("a list", say(list, sentence.toString()), finder, want, want, want, want);
            sentence.insert(0, 'a');
        }
        Grammarsmith x = say(with("A:AaA|AbA|c"), "cacbc");
        levels(x, 1, LEFT, 2, LEFT);
        valued("the second is higher", x, 99);
        levels(x, 2, LEFT, 1, LEFT);
        valued("the first is higher", x, 51);
        levels(x, 1, LEFT, 1, LEFT);
        valued("the left one", x, 51);
        levels(x, 1, LEFT, 1, RIGHT);
        valued("the right one, by the terminal of the cell", x, 99);
        levels(x, 1, RIGHT, 1, LEFT);
        valued("the left one, by the terminal of the cell", x, 51);
        levels(x, 2, LEFT, 0, LEFT);
        valued("not settled", x, 99);
        say(x, "cbcac");
        levels(x, 1, LEFT, 1, RIGHT);
        valued("the left one, by the terminal of the cell", x, 51);
        levels(x, 1, RIGHT, 1, LEFT);
        valued("the right one, by the terminal of the cell", x, 93);
        valueOfConflicts();
        valueThrows();
    }

    private static void levels(Grammarsmith x, int ofA, int sideOfA, int ofB, int sideOfB) {
        x.level(0, ofA, sideOfA);
        x.level(1, ofB, sideOfB);
    }

    /** The value by each table of states, all of which settle the conflicts alike. */
    private static void valued(String what, Grammarsmith x, int want) {
        for (int k = SIMPLE; k <= WHOLE; k++) {
            int kind = k;
            due(what + ", kind " + k, x, o -> o.value(kind), want);
        }
    }

    private static void valueOfConflicts() {
        Ask finder = Grammarsmith::value;
        each("the lowest production", say(with("A:B|C", "B:a", "C:a"), "a"), finder, 5, 5, 5, 5);
        valued("the lowest production", say(with("B:a", "C:a", "A:C|B"), "a"), 6);
        each("the lowest production", with("A:|"), finder, 1, 1, 1, 1);
        valued("accepting ahead of reducing", say(with("A:A|a"), "a"), 3);
        Grammarsmith last = say(with("A:AaAbA|c"), "cacbcacbc");
        last.level(0, 1, RIGHT);
        last.level(1, 2, LEFT);
        int leaf = 2 + 3;
        int once = 1 + leaf + 2 + 3 * leaf + 4 * 2 + 5 * leaf;
        int byLast = (1 + once + 2 + 3 * leaf + 8 + 5 * leaf) % 1009;
        int byShift = (1 + leaf + 2 + 3 * leaf + 8 + 5 * once) % 1009;
        valued("the last terminal is higher", last, byLast);
        last.level(1, 0, LEFT);
        valued("the last terminal has no level", last, byShift);
    }

    private static void valueThrows() {
        Grammarsmith x = say(with("A:aA|b"), "ac");
        for (int k = 0; k < 4; k++) {
            int kind = k;
            refused("not accepted, kind " + k, x, o -> o.value(kind), STATE);
        }
        refused("stuck", say(with("A:Aa|a"), "a"), o -> o.value(PREDICTIVE), STATE);
        refused("too large", say(frames("aBa|bBb|cBc|dBd|eBe"), "afghfga"), o -> o.value(WHOLE), STATE);
        refused("300 steps are not enough", counted("BCCCD"), o -> o.value(SIMPLE), STATE);
        refusedWithout("not accepted", () -> say(rich(), "cab"), o -> o.value(SIMPLE), STATE);
        refusedWithout("no such kind, not accepted", () -> say(rich(), "cab"), o -> o.value(4), INDEX);
        noKinds("value", Grammarsmith::value);
    }

    private static void reads(Grammarsmith x, String sentence, long want) {
        due("readings of " + sentence, say(x, sentence), Grammarsmith::readings, want);
    }

    private static void readings() {
        Grammarsmith trees = with("A:AA|a");
        long[] wants = {0, 1, 1, 2, 5, 14, 42, 100, 100, 100, 100, 100, 100};
        for (int length = 0; length < wants.length; length++) {
            reads(trees, "aaaaaaaaaaaa".substring(0, length), wants[length]);
        }
        reads(trees, "aab", 0);
        Grammarsmith product = with("B:a|a|a|a|a|a|a|a|a", "C:b|b|b|b|b|b|b|b|b|b", "A:BC");
        reads(product, "ab", 90);
        enter(product, "C:b");
        reads(product, "ab", 99);
        enter(product, "B:a");
        reads(product, "ab", 100);
        reads(with("A:|"), "", 2);
        reads(with("A:BB", "B:a|"), "a", 2);
        reads(with("A:B|C|a", "B:a", "C:a|a"), "a", 4);
        reads(with("A:aa|B", "B:a%b"), "aa", 1);
        reads(with("A:a*a*"), "aaa", 4);
        reads(new Grammarsmith(), "", 0);
        reads(with("B:a"), "a", 0);
        Grammarsmith circle = with("A:B|a", "B:A|b");
        reads(circle, "a", 100);
        reads(circle, "b", 100);
        reads(circle, "c", 0);
        reads(circle, "", 0);
        Grammarsmith aside = with("A:aA|bB|c", "B:B|d");
        reads(aside, "aac", 1);
        reads(aside, "bd", 100);
        reads(aside, "abd", 100);
        Grammarsmith once = with("A:a", "A:A");
        reads(once, "a", 100);
        due("what is found ahead of undo", once, o -> o.first(A), 1);
        once.undo();
        due("behind undo", once, Grammarsmith::readings, 1);
        once.use(1);
        due("behind use", once, Grammarsmith::readings, 0);
        once.bring(0);
        due("behind bring", once, Grammarsmith::readings, 1);
        enter(once, "A:A");
        due("behind enter", once, Grammarsmith::readings, 100);
        once.start(B);
        due("behind start", once, Grammarsmith::readings, 0);
        Grammarsmith nothing = with("A:AA|a|");
        reads(nothing, "", 100);
        reads(nothing, "a", 100);
        reads(with("A:aAB|", "B:"), "aa", 1);
        reads(with("A:BAB|a", "B:"), "a", 100);
        Grammarsmith twins = say(with(TWINS), "dea");
        due("tables are nothing to it", twins, Grammarsmith::readings, 1);
        twins.start(B);
        due("another start", twins, Grammarsmith::readings, 0);
        due("a part of the sentence", say(twins, "e"), Grammarsmith::readings, 1);
        Grammarsmith broad = broad();
        enter(broad, "A:g");
        reads(broad, "fcaaa", 1);
    }

    private static void repairs(Grammarsmith x, String sentence, long want) {
        due("repair of " + sentence, say(x, sentence), Grammarsmith::repair, want);
    }

    private static void repair() {
        Grammarsmith x = with("A:abc");
        repairs(x, "abc", 0);
        repairs(x, "", 3);
        repairs(x, "ac", 1);
        repairs(x, "bc", 1);
        repairs(x, "ab", 1);
        repairs(x, "abbc", 1);
        repairs(x, "habc", 1);
        repairs(x, "abch", 1);
        repairs(x, "adc", 1);
        repairs(x, "ca", 3);
        repairs(x, "bca", 2);
        repairs(x, "hhh", 3);
        repairs(x, "hhhhhhhhhhhh", 12);
        repairs(x, "hhahhbhhchhh", 9);
        Grammarsmith nothing = with("A:");
        repairs(nothing, "", 0);
        repairs(nothing, "abcabcabcabc", 12);
        Grammarsmith sums = with(SUMS);
        repairs(sums, "fbfcf", 0);
        repairs(sums, "fbcf", 1);
        repairs(sums, "dfbf", 1);
        repairs(sums, "ffffff", 3);
        repairs(sums, "ddfee", 0);
        repairs(sums, "edfed", 2);
        repairs(with("A:BAB|a", "B:"), "aaa", 2);
        repairs(with("A:A|a"), "b", 1);
        repairs(with("A:BB|", "B:Ab"), "bbbbb", 1);
        repairs(new Grammarsmith(), "", NONE);
        repairs(with("A:aA", "B:a"), "a", NONE);
        Grammarsmith start = with("A:aA", "B:a");
        start.start(B);
        repairs(start, "aa", 1);
        repairs(longer("a"), "", 98);
        repairs(longer("D"), "", 99);
        repairs(longer("C"), "", 99);
        repairs(longer("C"), "b", 99);
        repairs(longer("B"), "aaa", 98);
        Grammarsmith broad = broad();
        enter(broad, "A:g");
        repairs(broad, "gcaaa", 1);
    }

    private static void constants() {
        List<Integer> got = new ArrayList<>(List.of(Grammarsmith.NONE, Grammarsmith.TOO_LARGE, Grammarsmith.STUCK,
                Grammarsmith.PREDICTIVE, Grammarsmith.SIMPLE, Grammarsmith.MERGED));
        got.addAll(List.of(Grammarsmith.WHOLE, Grammarsmith.LEFT, Grammarsmith.RIGHT, Grammarsmith.NEITHER));
        same("the constants", got.toString(), "[-1, -2, -3, 0, 1, 2, 3, 0, 1, 2]");
    }
}
