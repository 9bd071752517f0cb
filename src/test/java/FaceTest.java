import java.io.IOException;
import java.io.UncheckedIOException;
import java.lang.reflect.Constructor;
import java.lang.reflect.Executable;
import java.lang.reflect.Field;
import java.lang.reflect.Method;
import java.lang.reflect.Modifier;
import java.nio.file.Files;
import java.nio.file.Path;
import java.util.ArrayList;
import java.util.Arrays;
import java.util.HashSet;
import java.util.List;
import java.util.Set;
import java.util.TreeSet;

/**
 * What the class is, its face line by line, and what is to be seen by reflection, or in its source, of the rules
 * of ../shared/LANGUAGE.md.
 */
public final class FaceTest extends Checks {
    private static final Path SOURCE = Path.of("src/main/java/Grammarsmith.java");
    private static final Class<?> PROGRAM = Grammarsmith.class;
    /** What is written between comments and texts, which are left out, in lines. */
    private static final List<String> LINES = lines();
    private static final Set<String> QUOTED = new HashSet<>();

    public static void main(String[] args) {
        whatItIs();
        usedFor512Calls();
        constants();
        calls();
        commentsOfTheFace();
        nothingElse();
        notPromised();
        wholly("What it is", "The public face", "Ahead of the calls", "Not promised");
        classesInside();
        fields();
        lengths();
        words();
        finish();
    }

    // ---- what it is

    private static void whatItIs() {
        says("What it is", "A parser generator: rules typed with choices, options, repetitions and separated lists, "
                + "two grammars that bring each other's rules with other names; what is empty, first, behind, "
                + "useless, left recursive, and shortest; four kinds of tables with their conflicts, which are "
                + "settled by levels and sides; parsers that run them; a chart that counts all readings; and the "
                + "least repair of a sentence.", 1, 5, 8, 14, 15, 16, 17, 18, 19, 22, 23, 27, 29, 30);
        Grammarsmith x = new Grammarsmith();
        x.use(1);
        enter(x, "G:c?d*", "F:b+");
        x.use(0);
        enter(x, "A:(B|a)%e");
        due("bring", x, o -> o.bring(3), 2);
        same("choices, options, repetitions, lists, other names", rights(x),
                "8:B 8:a 9:8 9:9e8 A:9 10: 10:c 11: 11:11d B:1011 12:b 12:12b A:12 ");
        due("empty", x, o -> bit(o.isNullable(A)), 1);
        due("first", x, o -> o.first(A), 1 + 2 + 4 + 8 + 16);
        due("behind", x, o -> o.follow(B), END + 16);
        due("useless", x, o -> o.uses(C), 0);
        due("left recursive", x, o -> bit(o.isLeftRecursive(9)), 1);
        due("shortest", x, o -> o.shortest(12), 1);
        say(x, "aecdeb");
        due("repair", x, Grammarsmith::repair, 1);
        x.cut(5);
        due("readings", x, Grammarsmith::readings, 1);
        Grammarsmith sums = say(with("A:AbA|a"), "ababa");
        each("conflicts", sums, (o, kind) -> o.conflicts(kind), 1, 1, 1, 1);
        sums.level(1, 1, RIGHT);
        each("settled", sums, (o, kind) -> o.settled(kind), 0, 1, 1, 1);
        each("parsed", sums, (o, kind) -> o.parse(kind), STUCK, NONE, NONE, NONE);
        due("readings of a sum", sums, Grammarsmith::readings, 2);
    }

    private static void usedFor512Calls() {
        says("What it is", "An object is used for at most 512 calls after it has been made; "
                + "what later calls answer is free.");
        Grammarsmith x = new Grammarsmith();
        for (int call = 0; call < 512; call += 2) {
            due("call " + call, x, o -> o.type('a'), 1);
            due("the call behind call " + call, x, Grammarsmith::wipe, 1);
        }
    }

    // ---- the face

    private static void face(String line) {
        says("The public face", line);
        QUOTED.add(line);
    }

    private static void constants() {
        face("public final class Grammarsmith {");
        same("the class", Modifier.toString(PROGRAM.getModifiers()) + " " + PROGRAM.getName(),
                "public final Grammarsmith");
        face("public static final int NONE = -1;");
        constant("NONE", -1);
        face("public static final int TOO_LARGE = -2, STUCK = -3;");
        constant("TOO_LARGE", -2);
        constant("STUCK", -3);
        face("public static final int PREDICTIVE = 0, SIMPLE = 1, MERGED = 2, WHOLE = 3;");
        constant("PREDICTIVE", 0);
        constant("SIMPLE", 1);
        constant("MERGED", 2);
        constant("WHOLE", 3);
        face("public static final int LEFT = 0, RIGHT = 1, NEITHER = 2;");
        constant("LEFT", 0);
        constant("RIGHT", 1);
        constant("NEITHER", 2);
    }

    private static void constant(String name, int value) {
        String got = "none";
        for (Field field : PROGRAM.getDeclaredFields()) {
            if (field.getName().equals(name)) {
                got = Modifier.toString(field.getModifiers()) + " " + field.getType() + " " + value(field);
            }
        }
        same(name, got, "public static final int " + value);
    }

    private static String value(Field field) {
        try {
            return String.valueOf(field.get(null));
        } catch (IllegalAccessException thrown) {
            return "closed";
        }
    }

    private static void calls() {
        String index = " throws IndexOutOfBoundsException", indexState = index + ", IllegalStateException";
        String argumentState = " throws IllegalArgumentException, IllegalStateException";
        call("Grammarsmith()", "");
        call("int type(char letter)", argumentState);
        call("int wipe()", "");
        call("int fault()", "");
        call("int enter()", argumentState);
        call("int undo()", " throws IllegalStateException");
        call("int use(int grammar)", index);
        call("int bring(int shift)", argumentState);
        call("int start(int nonterminal)", index);
        call("int level(int terminal, int level, int side)", index + ", IllegalArgumentException");
        call("int productions()", "");
        call("int left(int production)", index);
        call("int right(int production, int place)", index);
        call("boolean isNullable(int nonterminal)", index);
        call("int first(int nonterminal)", index);
        call("int follow(int nonterminal)", index);
        call("int uses(int nonterminal)", index);
        call("boolean isLeftRecursive(int nonterminal)", index);
        call("int shortest(int nonterminal)", index);
        call("int sentence(int nonterminal, int place)", indexState);
        call("int size(int kind)", index);
        call("int conflicts(int kind)", index);
        call("int settled(int kind)", index);
        call("int chosen()", "");
        call("int put(int place, int terminal)", indexState);
        call("int cut(int place)", index);
        call("int parse(int kind)", index);
        call("int value(int kind)", indexState);
        call("int readings()", "");
        call("int repair()", "");
        face("}");
    }

    private static void call(String head, String thrown) {
        face("public " + head + thrown + ";");
        String want = "public " + withoutNames(head) + thrown;
        Set<String> faces = new TreeSet<>();
        for (Method method : PROGRAM.getDeclaredMethods()) {
            faces.add(rendered(method, method.getReturnType() + " " + method.getName()));
        }
        for (Constructor<?> constructor : PROGRAM.getDeclaredConstructors()) {
            faces.add(rendered(constructor, constructor.getName()));
        }
        if (!faces.contains(want)) {
            fail("there is no " + want);
        }
    }

    private static String withoutNames(String head) {
        return head.replaceAll("(int|char) \\w+([,)])", "$1$2");
    }

    private static String rendered(Executable member, String name) {
        return Modifier.toString(member.getModifiers()) + " " + name + "(" + names(member.getParameterTypes()) + ")"
                + (member.getExceptionTypes().length == 0 ? "" : " throws " + names(member.getExceptionTypes()));
    }

    private static String names(Class<?>[] types) {
        return String.join(", ", Arrays.stream(types).map(Class::getSimpleName).toList());
    }

    private static void commentsOfTheFace() {
        String[] groups = {"rules", "what is found; all of these for nonterminals without productions, too", "tables",
            "the sentence"};
        String[] names = {"`type`, `wipe`, `fault`, `enter`, `undo`, `use`, `bring`, `start`, `level`, "
            + "`productions`, `left`, `right`", "`isNullable`, `first`, `follow`, `uses`, `isLeftRecursive`, "
            + "`shortest`, `sentence`", "`size`, `conflicts`, `settled`, `chosen`",
            "`put`, `cut`, `parse`, `value`, `readings`, `repair`"};
        for (int group = 0; group < groups.length; group++) {
            says("Ahead of the calls", "Ahead of the calls " + names[group] + " the interface says: ---- "
                    + groups[group] + ".");
            String source = source();
            int at = source.indexOf("// ---- " + groups[group] + "\n");
            for (String name : names[group].replace("`", "").split(", ")) {
                int next = source.indexOf(" " + name + "(", Math.max(at, 0));
                if (at < 0 || next < at) {
                    fail(name + " does not come next in the source");
                }
                at = next;
            }
        }
        Grammarsmith x = with("B:b");
        for (int n = 0; n < 16; n++) {
            int nonterminal = n;
            long found = n == B ? 1 : 0;
            due("isNullable", x, o -> bit(o.isNullable(nonterminal)), 0);
            due("first", x, o -> o.first(nonterminal), 2 * found);
            due("follow", x, o -> o.follow(nonterminal), nonterminal == A ? END : 0);
            due("uses", x, o -> o.uses(nonterminal), nonterminal == A ? 2 : found);
            due("isLeftRecursive", x, o -> bit(o.isLeftRecursive(nonterminal)), 0);
            due("shortest", x, o -> o.shortest(nonterminal), nonterminal == B ? 1 : NONE);
        }
        refused("sentence", x, o -> o.sentence(A, 0), STATE);
    }

    /** LANGUAGE, 1: no other member but private ones, and no private method has the name of a public one. */
    private static void nothingElse() {
        about("LANGUAGE, 1");
        int calls = PROGRAM.getDeclaredConstructors().length;
        Set<String> names = new HashSet<>();
        for (Method method : PROGRAM.getDeclaredMethods()) {
            if (Modifier.isPublic(method.getModifiers())) {
                calls++;
                names.add(method.getName());
            }
        }
        int constants = 0;
        for (Field field : PROGRAM.getDeclaredFields()) {
            constants += Modifier.isPublic(field.getModifiers()) ? 1 : 0;
            onlyPublicOrPrivate(field.getName(), field.getModifiers());
        }
        same("how many calls, constants, and lines of the face there are",
                calls + " " + constants + " " + QUOTED.size(), "30 10 36");
        same("how many names the calls have", Integer.toString(names.size()), "29");
        for (Class<?> one : all()) {
            for (Method method : one.getDeclaredMethods()) {
                if (one == PROGRAM) {
                    onlyPublicOrPrivate(method.getName(), method.getModifiers());
                }
                if (Modifier.isPrivate(method.getModifiers()) && names.contains(method.getName())) {
                    fail("a private method has the name " + method.getName());
                }
            }
        }
    }

    private static void onlyPublicOrPrivate(String name, int modifiers) {
        if (!Modifier.isPublic(modifiers) && !Modifier.isPrivate(modifiers)) {
            fail(name + " is neither public nor private");
        }
    }

    /** What is free is left as it is, and calls of one object are nothing to another one. */
    private static void notPromised() {
        says("Not promised", "How the state is held inside the object is free, as are the speed of each call, the "
                + "text of toString and the behaviour of equals and hashCode. Use of one object from several threads "
                + "at once is not promised to be safe. Nothing is promised beyond the answers and state changes "
                + "described above, and nothing about an object after its 512th call.");
        for (String name : new String[] {"toString", "equals", "hashCode"}) {
            for (Class<?> one : all()) {
                for (Method method : one.getDeclaredMethods()) {
                    if (method.getName().equals(name)) {
                        fail(one.getName() + " has its own " + name);
                    }
                }
            }
        }
        about("LANGUAGE, 5 and 13, two objects in turn");
        Grammarsmith one = new Grammarsmith();
        Grammarsmith two = new Grammarsmith();
        for (int k = 0; k < 3; k++) {
            one.type("A:b".charAt(k));
            two.type("B:a".charAt(k));
        }
        one.enter();
        two.enter();
        one.put(0, 1);
        two.start(B);
        one.level(0, 1, LEFT);
        due("parse of one", one, o -> o.parse(WHOLE), NONE);
        due("parse of the other", two, o -> o.parse(WHOLE), 0);
        due("left of one", one, o -> o.left(0), A);
        due("left of the other", two, o -> o.left(0), B);
        due("level of the other", two, o -> o.level(0, 0, LEFT), 0);
        due("start of one", one, o -> o.start(A), A);
    }

    // ---- LANGUAGE, as far as it is to be seen from outside

    private static List<Class<?>> all() {
        List<Class<?>> all = new ArrayList<>(List.of(PROGRAM));
        all.addAll(List.of(PROGRAM.getDeclaredClasses()));
        return all;
    }

    private static void classesInside() {
        about("LANGUAGE, 2 and 11");
        if (all().size() > 12) {
            fail(all().size() + " classes");
        }
        for (Class<?> inside : PROGRAM.getDeclaredClasses()) {
            if (!Modifier.isStatic(inside.getModifiers()) || Modifier.isPublic(inside.getModifiers())
                    || Modifier.isProtected(inside.getModifiers()) || inside.getDeclaredClasses().length > 0) {
                fail(inside.getName() + " is not static, not hidden, or has classes of its own");
            }
        }
    }

    private static void fields() {
        for (Class<?> one : all()) {
            int own = 0;
            for (Field field : one.getDeclaredFields()) {
                about("LANGUAGE, 3 and 5, " + one.getName() + "." + field.getName());
                boolean constant = Modifier.isStatic(field.getModifiers());
                if (constant && (!Modifier.isFinal(field.getModifiers()) || field.getType() != int.class)) {
                    fail("a static field that is no constant of int");
                }
                Class<?> type = field.getType().isArray() ? field.getType().getComponentType() : field.getType();
                if (!type.isPrimitive() && !all().contains(type)) {
                    fail("the type " + field.getType());
                }
                own += constant ? 0 : 1;
            }
            about("LANGUAGE, 11, " + one.getName());
            if (own > 20) {
                fail(own + " fields");
            }
        }
    }

    /** A method ends with the first bracket that stands as far to the left as its head. */
    private static void lengths() {
        int methods = 0;
        for (int from = 0; from < LINES.size(); from++) {
            String head = LINES.get(from);
            if (head.matches("( {4}| {8})([a-z]+ )*([A-Za-z]+(\\[\\])? )?\\w+\\(.*\\)( throws .*| \\{)?")) {
                String end = head.substring(0, head.length() - head.stripLeading().length()) + "}";
                int length = LINES.subList(from, LINES.size()).indexOf(end) + 1;
                methods++;
                about("LANGUAGE, 11, the line " + (from + 1));
                if (length > 60) {
                    fail("a method of " + length + " lines");
                }
            }
        }
        about("LANGUAGE, 11");
        int declared = 0;
        for (Class<?> one : all()) {
            for (Method method : one.getDeclaredMethods()) {
                declared += Modifier.isAbstract(method.getModifiers()) ? 0 : 1;
            }
        }
        if (methods < declared) {
            fail("heads of " + methods + " methods were found in the source, and there are " + declared);
        }
        for (Class<?> one : all()) {
            for (Method method : one.getDeclaredMethods()) {
                if (method.getParameterCount() > 7) {
                    fail(method + " takes " + method.getParameterCount() + " parameters");
                }
            }
        }
    }

    /** What the rules rule out by a word that would stand in the source. */
    private static void words() {
        String[] ruledOut = {"package", "try", "catch", "finally", "synchronized", "assert", "native", "volatile",
            "transient", "System", "Thread", "Random", "record", "instanceof", "equals", "hashCode", "toString",
            "double", "float", "String", "Exact", "while \\(true\\)", "for \\(;;\\)", "->", "::", "@", "\""};
        for (int k = 0; k < LINES.size(); k++) {
            String line = LINES.get(k);
            about("LANGUAGE, 4, 6, 9 and 13, the line " + (k + 1));
            for (String word : ruledOut) {
                if (line.matches(".*" + (word.matches("\\w+") ? "\\b" + word + "\\b" : word) + ".*")) {
                    fail(word);
                }
            }
            if (line.startsWith("import") && !line.equals("import java.util.Arrays;")) {
                fail(line);
            }
            if (line.contains("throw ") && !line.matches(" +throw new (IllegalArgument|IllegalState"
                    + "|IndexOutOfBounds)Exception\\(\\);")) {
                fail(line);
            }
            if (line.matches(".*\\bfor \\(.*")
                    && !line.matches(" *for \\(int \\w+ = .*; .*(<|<=|>|>=) .*; .*\\) \\{")) {
                fail("a loop without a bound");
            }
        }
        for (char letter : source().toCharArray()) {
            if (letter > 126) {
                fail("a letter above 126");
            }
        }
    }

    private static String source() {
        try {
            return Files.readString(SOURCE);
        } catch (IOException thrown) {
            throw new UncheckedIOException(thrown);
        }
    }

    private static List<String> lines() {
        String bare = source().replaceAll("\"[^\"\n]*\"", "");
        List<String> lines = new ArrayList<>();
        for (String line : bare.split("\n")) {
            boolean comment = line.matches(" *(/\\*\\*|\\*).*");
            lines.add(comment ? "" : line.replaceAll(" *//.*", ""));
        }
        return lines;
    }
}
