/** All that can be seen of an object, by calls on as many objects made alike as that takes. */
final class Sight {
    private Sight() {
    }

    static String of(Checks.Maker maker) {
        StringBuilder all = new StringBuilder();
        all.append(found(maker.make())).append(tables(maker.make()));
        Grammarsmith other = swapped(maker);
        all.append("\nother ").append(found(other)).append(tables(other));
        all.append("\nrules ").append(rules(maker.make()));
        all.append("\nundone ").append(undone(maker.make()));
        all.append("\nkept ").append(kept(maker.make()));
        all.append("\nentered ").append(entered(maker.make()));
        for (String more : new String[] {"", "a", ")", ":", "A:"}) {
            all.append("\ntext ").append(text(maker.make(), more));
        }
        return all.toString();
    }

    /** The grammar that is not in use is in use then. */
    private static Grammarsmith swapped(Checks.Maker maker) {
        Grammarsmith x = maker.make();
        int used = x.use(0);
        x.use(1 - used);
        return x;
    }

    private static String found(Grammarsmith x) {
        StringBuilder all = new StringBuilder("found");
        for (int n = 0; n < 16; n++) {
            all.append(' ').append(x.isNullable(n) ? 'e' : '-').append(x.first(n)).append(',').append(x.follow(n));
            all.append(',').append(x.uses(n)).append(x.isLeftRecursive(n) ? 'l' : '-').append(x.shortest(n));
        }
        return all.toString();
    }

    /** What tables, parsers, readings and the repair are, of the grammar in use. */
    static String tables(Grammarsmith x) {
        StringBuilder all = new StringBuilder(" tables");
        for (int k = 0; k < 4; k++) {
            int kind = k;
            all.append(' ').append(x.size(k)).append(',').append(x.conflicts(k)).append(',').append(x.settled(k));
            all.append(',').append(x.parse(k)).append(',').append(Checks.outcome(x, o -> o.value(kind)));
        }
        all.append(' ').append(x.chosen()).append(',').append(x.readings()).append(',').append(x.repair());
        return all.toString();
    }

    private static String rules(Grammarsmith x) {
        StringBuilder all = new StringBuilder(Checks.rights(x));
        all.append(" start ").append(x.start(0));
        int used = x.use(0);
        x.use(1 - used);
        all.append(" used ").append(used).append(' ').append(Checks.rights(x));
        return all.append(" start ").append(x.start(0)).toString();
    }

    private static String undone(Grammarsmith x) {
        StringBuilder all = new StringBuilder();
        clear(x, all);
        int used = x.use(0);
        x.use(1 - used);
        clear(x, all.append(','));
        return all.toString();
    }

    private static void clear(Grammarsmith x, StringBuilder all) {
        String got = "";
        for (int rule = 0; rule <= 25 && !got.contains("Exception"); rule++) {
            got = Checks.outcome(x, Grammarsmith::undo);
            all.append(' ').append(got);
        }
    }

    /** The sentence, and each terminal's level and side, which is seen where the terminal conflicts with itself. */
    private static String kept(Grammarsmith x) {
        StringBuilder all = new StringBuilder(Checks.spoken(x));
        clear(x, new StringBuilder());
        Checks.enter(x, "A:AaA|AbA|AcA|AdA", "A:AeA|AfA|AgA|AhA|");
        x.start(0);
        for (int t = 0; t < 8; t++) {
            x.put(0, t);
            x.put(0, t);
            all.append(' ').append(Checks.outcome(x, o -> o.value(1)));
            x.cut(0);
            x.cut(0);
        }
        for (int t = 0; t < 8; t++) {
            all.append(',').append(x.level(t, 0, 0));
        }
        return all.toString();
    }

    /** What a rule that needs helpers becomes, and what is left behind its undo. */
    private static String entered(Grammarsmith x) {
        Checks.type(x, "F:(a|b)c?");
        StringBuilder all = new StringBuilder(Checks.outcome(x, Grammarsmith::enter)).append(' ').append(Checks.rights(x));
        return all.append(Checks.outcome(x, Grammarsmith::undo)).append(' ').append(Checks.rights(x)).toString();
    }

    /** What the text becomes, with some letters more. */
    private static String text(Grammarsmith x, String more) {
        StringBuilder all = new StringBuilder().append(x.fault());
        for (int k = 0; k < more.length(); k++) {
            char letter = more.charAt(k);
            all.append(' ').append(Checks.outcome(x, o -> o.type(letter)));
        }
        all.append(" fault ").append(x.fault()).append(" entered ");
        all.append(Checks.outcome(x, Grammarsmith::enter)).append(' ').append(Checks.rights(x));
        return all.append(" letters ").append(x.wipe()).toString();
    }
}
