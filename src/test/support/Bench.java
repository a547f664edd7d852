/** A new object under test, short ways to draft on it, and checks that tell which sentence they stand for. */
final class Bench {
    static final long NOTHING = Long.MIN_VALUE;
    static final long OBJECT = 4294967296L;
    static final int LEAST = Integer.MIN_VALUE;
    static final int GREATEST = Integer.MAX_VALUE;

    private static final String[] KINDS =
            {"NUM", "ARG", "NEXT", "CALL", "GET", "SET", "ADD", "SUB", "LESS", "IF", "SEQ", "IS", "MAKE"};
    private static final String WITH_VALUE = " NUM ARG CALL GET SET IS MAKE ";

    final MultiDispatch x = new MultiDispatch();
    int checks = 0;
    int wrong = 0;
    private final String sentence;

    Bench(String sentence) {
        this.sentence = sentence;
    }

    void due(String what, long got, long want) {
        checks++;
        if (got != want) {
            wrong++;
            System.out.println(sentence + "\n    " + what + " answered " + got + ", due is " + want);
        }
    }

    void yes(String what, boolean got) {
        due(what, got ? 1 : 0, 1);
    }

    void no(String what, boolean got) {
        due(what, got ? 1 : 0, 0);
    }

    /** What a test needs before its own checks: a test on sand tells nothing. */
    private void given(String what, boolean holds) {
        if (!holds) {
            due("given " + what, 0, 1);
        }
    }

    /** Drafts superclasses. */
    void under(int... supers) {
        for (int c : supers) {
            given("under(" + c + ")", x.under(c));
        }
    }

    /** Drafts slots, as number and initial number in turn. */
    void slots(int... slots) {
        for (int i = 0; i < slots.length; i += 2) {
            given("slot(" + slots[i] + ")", x.slot(slots[i], slots[i + 1]));
        }
    }

    /** Defines a class below others; what define answers. */
    int define(int... supers) {
        under(supers);
        return x.define();
    }

    /** Defines classes below class 0 until there are so many. */
    void fillClasses(int count) {
        int c = define();
        while (c + 1 < count && c > 0) {
            c = define();
        }
        given("so many classes", c == count - 1);
    }

    /** Each class from 2 on below the one before, class 2 below the first. */
    void chain(int first, int last) {
        int above = first;
        for (int c = 2; c <= last; c++) {
            given("class " + c, define(above) == c);
            above = c;
        }
    }

    /** Makes objects of a class until there are so many. */
    void fillObjects(int c, int count) {
        int k = x.make(c);
        while (k + 1 < count && k >= 0) {
            k = x.make(c);
        }
        given("so many objects", k == count - 1);
    }

    /** Drafts specialisers, as "2" for a class, "=7" for an int and "@0" for an object. */
    void specials(String specials) {
        for (String s : words(specials)) {
            boolean single = s.startsWith("=") || s.startsWith("@");
            long v = Long.parseLong(single ? s.substring(1) : s) + (s.startsWith("@") ? OBJECT : 0);
            given("special(" + single + ", " + v + ")", x.special(single, v));
        }
    }

    /** Drafts tokens, as the document names them: "ADD NUM 1 NEXT". */
    void tokens(String body) {
        String[] words = words(body);
        for (int i = 0; i < words.length; i++) {
            int kind = java.util.Arrays.asList(KINDS).indexOf(words[i]);
            boolean hasValue = WITH_VALUE.contains(" " + words[i] + " ");
            i += hasValue ? 1 : 0;
            int value = hasValue ? Integer.parseInt(words[i]) : 0;
            given("token(" + kind + ", " + value + ")", x.token(kind, value));
        }
    }

    private static String[] words(String text) {
        return text.isBlank() ? new String[0] : text.trim().split(" +");
    }

    /** Drafts a method and adds it; what method answers. */
    int method(int g, String specials, String body) {
        specials(specials);
        tokens(body);
        return x.method(g);
    }

    /** Adds a method for each of the ints from 0 on, until there are so many. */
    void fillMethods(int g, int count) {
        for (int v = 0; v < count; v++) {
            given("method of " + v, method(g, "=" + v, "NUM " + v) == v);
        }
    }

    /** Generic 3 takes 106 steps and then works out generic 4's body, with 2 calls at work and 14 steps left. */
    void spendAllButFourteen() {
        method(1, "0", "IS 0 ".repeat(13) + "NUM 0");
        method(2, "0", "SEQ CALL 1 NUM 0 SEQ CALL 1 NUM 0 SEQ CALL 1 NUM 0 CALL 1 NUM 0");
        method(3, "0", "SEQ CALL 2 NUM 0 SEQ CALL 1 NUM 0 SEQ CALL 1 NUM 0 CALL 4 ARG 0");
    }

    int call(int g, long... arguments) {
        long[] all = java.util.Arrays.copyOf(arguments, 3);
        return x.call(g, all[0], all[1], all[2]);
    }

    /** The call gives this value. */
    void value(long want, int steps, int g, long... arguments) {
        String what = told(g, arguments);
        due(what, call(g, arguments), MultiDispatch.OK);
        due(what + " result", x.result(), want);
        due(what + " steps", x.steps(), steps);
    }

    /** The call ends with this fault. */
    void fault(int want, int steps, int g, long... arguments) {
        String what = told(g, arguments);
        due(what, call(g, arguments), want);
        due(what + " result", x.result(), NOTHING);
        due(what + " steps", x.steps(), steps);
    }

    private static String told(int g, long... arguments) {
        return "call of " + g + " with " + java.util.Arrays.toString(arguments);
    }

    /** The whole order: the last that is told, -1 or BROKEN, stands at all places behind too. */
    void order(int[] want, int g, long... arguments) {
        for (int k = 0; k < want.length; k++) {
            place(k, want[k], g, arguments);
        }
        for (int k : new int[] {want.length, 23, 24, 25, GREATEST}) {
            place(k, want[want.length - 1], g, arguments);
        }
    }

    void place(int k, int want, int g, long... arguments) {
        long[] all = java.util.Arrays.copyOf(arguments, 3);
        due("order's place " + k + ", " + told(g, arguments), x.order(g, all[0], all[1], all[2], k), want);
    }

    static int[] places(int... methods) {
        return methods;
    }

    /** The whole line of a class. */
    void line(int c, int... want) {
        for (int k = 0; k < want.length; k++) {
            due("line(" + c + ", " + k + ")", x.line(c, k), want[k]);
        }
        due("line(" + c + ", " + want.length + ")", x.line(c, want.length), -1);
    }
}
