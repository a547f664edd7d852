/** One group of checks for each promise: ordinary inputs, the edges that the document names, wrong inputs. */
public final class PromiseTest {
    private static final long NOTHING = Long.MIN_VALUE;
    private static final long OBJECT = 4294967296L;
    private static final int NUM = 0, ARG = 1, NEXT = 2, CALL = 3, GET = 4, SET = 5, ADD = 6;
    private static final int SUB = 7, LESS = 8, IF = 9, SEQ = 10, IS = 11, MAKE = 12;

    private static int wrong = 0;
    private static int promise = 0;

    private static void due(String what, long got, long want) {
        if (got != want) {
            wrong++;
            System.out.println("promise " + promise + ": " + what + " answered " + got + ", due is " + want);
        }
    }

    private static void due(String what, boolean got, boolean want) {
        due(what, got ? 1 : 0, want ? 1 : 0);
    }

    /** A new class below the given ones; its answer. */
    private static int define(MultiDispatch x, int... supers) {
        for (int c : supers) {
            due("under(" + c + ")", x.under(c), true);
        }
        return x.define();
    }

    /** Tokens as kind and value in turn. */
    private static void body(MultiDispatch x, int... tokens) {
        for (int i = 0; i < tokens.length; i += 2) {
            due("token(" + tokens[i] + ", " + tokens[i + 1] + ")", x.token(tokens[i], tokens[i + 1]), true);
        }
    }

    private static void classes(MultiDispatch x, int... classes) {
        for (int c : classes) {
            due("special(false, " + c + ")", x.special(false, c), true);
        }
    }

    /** A method of generic g with one class as its specialiser; its answer. */
    private static int method(MultiDispatch x, int g, int c, int... tokens) {
        classes(x, c);
        body(x, tokens);
        return x.method(g);
    }

    private static int methodOfValue(MultiDispatch x, int g, long v, int... tokens) {
        due("special(true, " + v + ")", x.special(true, v), true);
        body(x, tokens);
        return x.method(g);
    }

    private static int methodOfTwo(MultiDispatch x, int g, int c, int d, int... tokens) {
        classes(x, c, d);
        body(x, tokens);
        return x.method(g);
    }

    private static void dueCall(String what, int got, MultiDispatch x, int answer, long result, int steps) {
        due(what, got, answer);
        due(what + " result", x.result(), result);
        due(what + " steps", x.steps(), steps);
    }

    /** A call with one argument and what is due after it. */
    private static void dueCall(MultiDispatch x, int g, long a, int answer, long result, int steps) {
        dueCall("call(" + g + ", " + a + ")", x.call(g, a, 0, 0), x, answer, result, steps);
    }

    private static void dueLine(MultiDispatch x, int c, int... line) {
        for (int k = 0; k < line.length; k++) {
            due("line(" + c + ", " + k + ")", x.line(c, k), line[k]);
        }
        due("line(" + c + ", " + line.length + ")", x.line(c, line.length), -1);
    }

    private static void dueOrder(MultiDispatch x, int g, long a, long b, int... order) {
        for (int k = 0; k < order.length; k++) {
            due("order(" + g + ", " + a + ", " + b + ", 0, " + k + ")", x.order(g, a, b, 0, k), order[k]);
        }
    }

    private static void newObject() {
        MultiDispatch x = new MultiDispatch();
        dueLine(x, 0, 0);
        dueLine(x, 1, 1, 0);
        dueLine(x, 2);
        due("result", x.result(), NOTHING);
        due("steps", x.steps(), 0);
        due("classOf first object", x.classOf(OBJECT), -1);
        due("clear", x.clear(), 0);
        due("make(0)", x.make(0), 0);
        for (int n = 0; n < 4; n++) {
            due("get(0, " + n + ")", x.get(0, n), NOTHING);
        }
        for (int g = 0; g < 5; g++) {
            due("order", x.order(g, 1, 1, 1, 0), -1);
            due("method without drafts", x.method(g), MultiDispatch.SYNTAX);
            due("method of one parameter", method(x, g, 0, NUM, g), g);
        }
        for (int m = 0; m < 24; m++) {
            due("remove(" + m + ")", x.remove(m), m < 5);
        }
        due("seal(0)", x.seal(0), true);
        due("seal(1)", x.seal(1), true);
        MultiDispatch other = new MultiDispatch();
        due("seal(0) of another object", other.seal(0), true);
    }

    private static void under() {
        MultiDispatch x = new MultiDispatch();
        due("under(-1)", x.under(-1), false);
        due("under(2), not there yet", x.under(2), false);
        due("under(MAX)", x.under(Integer.MAX_VALUE), false);
        due("under(MIN)", x.under(Integer.MIN_VALUE), false);
        due("define", x.define(), 2);
        due("define", x.define(), 3);
        due("under(2)", x.under(2), true);
        due("under(2) again", x.under(2), false);
        due("under(3)", x.under(3), true);
        due("under(2) behind another", x.under(2), false);
        due("under(1)", x.under(1), true);
        due("under(0), a fourth", x.under(0), false);
        due("define", x.define(), 4);
        dueLine(x, 4, 4, 2, 3, 1, 0);
        due("under(2) in the new draft", x.under(2), true);
        due("under(4)", x.under(4), true);
    }

    private static void slot() {
        MultiDispatch x = new MultiDispatch();
        due("slot(-1)", x.slot(-1, 5), false);
        due("slot(4)", x.slot(4, 5), false);
        due("slot(MAX)", x.slot(Integer.MAX_VALUE, 5), false);
        due("slot(MIN)", x.slot(Integer.MIN_VALUE, 5), false);
        due("slot(0)", x.slot(0, Integer.MIN_VALUE), true);
        due("slot(3)", x.slot(3, Integer.MAX_VALUE), true);
        due("slot(0) again", x.slot(0, 7), false);
        due("define", x.define(), 2);
        due("slot(0) in the new draft", x.slot(0, 9), true);
        due("slot(1)", x.slot(1, 10), true);
        due("slot(2)", x.slot(2, 11), true);
        due("define", define(x, 2), 3);
        due("make(2)", x.make(2), 0);
        due("make(3)", x.make(3), 1);
        due("get(0, 0)", x.get(0, 0), Integer.MIN_VALUE);
        due("get(0, 1)", x.get(0, 1), NOTHING);
        due("get(0, 3)", x.get(0, 3), Integer.MAX_VALUE);
        due("get(1, 0)", x.get(1, 0), 9);
        due("get(1, 1)", x.get(1, 1), 10);
        due("get(1, 3)", x.get(1, 3), Integer.MAX_VALUE);
    }

    private static void define() {
        MultiDispatch x = new MultiDispatch();
        due("define without superclasses", x.define(), 2);
        dueLine(x, 2, 2, 0);
        due("define below 2 and 0", define(x, 2, 0), 3);
        due("define below 0 and 2", define(x, 0, 2), MultiDispatch.BROKEN);
        due("slot(1)", x.slot(1, 4), true);
        due("define below 2", define(x, 2), 4);
        due("define below 3 and 4", define(x, 3, 4), 5);
        due("define below 4 and 3", define(x, 4, 3), 6);
        due("slot(2)", x.slot(2, 1), true);
        due("define below 5 and 6", define(x, 5, 6), MultiDispatch.BROKEN);
        due("the slot draft is empty", x.slot(2, 3), true);
        due("the superclass draft is empty", x.define(), 7);
        dueLine(x, 7, 7, 0);
        due("seal(7)", x.seal(7), true);
        due("slot(3)", x.slot(3, 1), true);
        due("define below a sealed class", define(x, 2, 7), MultiDispatch.SEALED);
        due("the drafts are empty", x.define(), 8);
        due("make(8)", x.make(8), 0);
        due("get(0, 3)", x.get(0, 3), NOTHING);
        due("seal(0)", x.seal(0), true);
        due("define below sealed 0 without a draft", x.define(), MultiDispatch.SEALED);
        due("define below a subclass of a sealed class", define(x, 2), 9);
        for (int c = 10; c < 16; c++) {
            due("define", define(x, 2), c);
        }
        due("under(3)", x.under(3), true);
        due("slot(0)", x.slot(0, 1), true);
        due("define a seventeenth", x.define(), MultiDispatch.FULL);
        due("under(3) is still in the draft", x.under(3), false);
        due("slot(0) is still in the draft", x.slot(0, 1), false);
        due("define again", x.define(), MultiDispatch.FULL);
        due("line(16, 0)", x.line(16, 0), -1);
        due("make(15)", x.make(15), 1);
        due("get(1, 0)", x.get(1, 0), NOTHING);
    }

    private static void seal() {
        MultiDispatch x = new MultiDispatch();
        due("seal(-1)", x.seal(-1), false);
        due("seal(2), not there", x.seal(2), false);
        due("define", x.define(), 2);
        due("seal(2)", x.seal(2), true);
        due("seal(2) again", x.seal(2), false);
        due("under(2) of a sealed class", x.under(2), true);
        due("define", x.define(), MultiDispatch.SEALED);
        due("seal(1)", x.seal(1), true);
        due("define below 1", define(x, 1), MultiDispatch.SEALED);
        due("make(2), sealed", x.make(2), 0);
        due("special of a sealed class", method(x, 0, 2, NUM, 1), 0);
        due("seal(MAX)", x.seal(Integer.MAX_VALUE), false);
        due("seal(MIN)", x.seal(Integer.MIN_VALUE), false);
    }

    private static void line() {
        MultiDispatch x = new MultiDispatch();
        due("O", x.define(), 2);
        due("A", define(x, 2), 3);
        due("B", define(x, 2), 4);
        due("C", define(x, 2), 5);
        due("D", define(x, 2), 6);
        due("E", define(x, 2), 7);
        due("K1", define(x, 3, 4, 5), 8);
        due("K2", define(x, 6, 4, 7), 9);
        due("K3", define(x, 6, 3), 10);
        due("Z", define(x, 8, 9, 10), 11);
        dueLine(x, 8, 8, 3, 4, 5, 2, 0);
        dueLine(x, 9, 9, 6, 4, 7, 2, 0);
        dueLine(x, 10, 10, 6, 3, 2, 0);
        dueLine(x, 11, 11, 8, 9, 10, 6, 3, 4, 5, 7, 2, 0);
        due("a superclass's own subclass behind it", define(x, 3, 8), MultiDispatch.BROKEN);
        due("below it and its subclass", define(x, 8, 3), 12);
        dueLine(x, 12, 12, 8, 3, 4, 5, 2, 0);
        due("line(13, 0)", x.line(13, 0), -1);
        due("line(-1, 0)", x.line(-1, 0), -1);
        due("line(11, -1)", x.line(11, -1), -1);
        due("line(11, MAX)", x.line(11, Integer.MAX_VALUE), -1);
        due("line(MAX, 0)", x.line(Integer.MAX_VALUE, 0), -1);
        due("line(MIN, 0)", x.line(Integer.MIN_VALUE, 0), -1);
        MultiDispatch chain = new MultiDispatch();
        int last = 1;
        for (int c = 2; c < 16; c++) {
            due("chain", define(chain, last), c);
            last = c;
        }
        for (int k = 0; k < 16; k++) {
            due("line(15, " + k + ")", chain.line(15, k), 15 - k);
        }
        due("line(15, 16)", chain.line(15, 16), -1);
        due("line(14, 15)", chain.line(14, 15), -1);
    }

    private static void generic() {
        MultiDispatch x = new MultiDispatch();
        due("generic(-1, 1)", x.generic(-1, 1), MultiDispatch.BAD);
        due("generic(5, 1)", x.generic(5, 1), MultiDispatch.BAD);
        due("generic(0, 0)", x.generic(0, 0), MultiDispatch.BAD);
        due("generic(0, 4)", x.generic(0, 4), MultiDispatch.BAD);
        due("generic(4, 3)", x.generic(4, 3), MultiDispatch.OK);
        due("generic(1, 2)", x.generic(1, 2), MultiDispatch.OK);
        due("method of two", methodOfTwo(x, 1, 0, 0, SUB, 0, ARG, 0, ARG, 1), 0);
        dueCall("call(1, 9, 4)", x.call(1, 9, 4, 0), x, MultiDispatch.OK, 5, 3);
        due("generic(1, 2) with methods", x.generic(1, 2), MultiDispatch.SEALED);
        due("generic(1, 4) with methods", x.generic(1, 4), MultiDispatch.BAD);
        due("a body that calls 2", method(x, 0, 0, NUM, 7), 1);
        due("a body that calls 2", method(x, 0, 1, IF, 0, NUM, 1, NUM, 2, CALL, 2, NUM, 3), 2);
        due("generic(2, 1), called", x.generic(2, 1), MultiDispatch.SEALED);
        due("generic(3, 2), not called", x.generic(3, 2), MultiDispatch.OK);
        due("token(CALL, 3) in the draft", x.token(CALL, 3), true);
        due("generic(3, 3), called in the draft alone", x.generic(3, 3), MultiDispatch.OK);
        due("end the draft", x.method(3), MultiDispatch.SYNTAX);
        due("another body takes its place", method(x, 0, 1, NUM, 2), 2);
        due("generic(2, 3), not called any more", x.generic(2, 3), MultiDispatch.OK);
        due("a body that calls 2 again", method(x, 0, 1, CALL, 2, NUM, 1, NUM, 2, NUM, 3), 2);
        due("generic(2, 1), called by the first token", x.generic(2, 1), MultiDispatch.SEALED);
        due("remove(2)", x.remove(2), true);
        due("generic(2, 1)", x.generic(2, 1), MultiDispatch.OK);
        due("a body that calls 2 at its second token", method(x, 0, 1, GET, 0, CALL, 2, NUM, 1), 2);
        due("generic(2, 1), called", x.generic(2, 1), MultiDispatch.SEALED);
        due("a shorter body takes its place", method(x, 0, 1, NUM, 2), 2);
        due("generic(2, 2)", x.generic(2, 2), MultiDispatch.OK);
        due("remove(2)", x.remove(2), true);
        due("remove(0)", x.remove(0), true);
        due("generic(1, 1)", x.generic(1, 1), MultiDispatch.OK);
        due("NUM with the generic's number is no call", method(x, 0, 1, NUM, 3), 0);
        due("generic(3, 1)", x.generic(3, 1), MultiDispatch.OK);
    }

    private static void special() {
        MultiDispatch x = new MultiDispatch();
        due("special(false, -1)", x.special(false, -1), false);
        due("special(false, 2)", x.special(false, 2), false);
        due("special(false, 2 to the 32)", x.special(false, OBJECT), false);
        due("special(false, MIN)", x.special(false, Long.MIN_VALUE), false);
        due("special(true, no object)", x.special(true, OBJECT), false);
        due("special(true, above int)", x.special(true, 2147483648L), false);
        due("special(true, below int)", x.special(true, -2147483649L), false);
        due("special(true, MIN)", x.special(true, Long.MIN_VALUE), false);
        due("special(true, MAX)", x.special(true, Long.MAX_VALUE), false);
        due("special(true, a class's inner form)", x.special(true, 2 * OBJECT), false);
        due("make", x.make(0), 0);
        due("special(true, object 1)", x.special(true, OBJECT + 1), false);
        due("special(true, object 0)", x.special(true, OBJECT), true);
        due("special(true, least int)", x.special(true, -2147483648L), true);
        due("special(true, greatest int)", x.special(true, 2147483647L), true);
        due("a fourth", x.special(false, 0), false);
        due("generic(0, 3)", x.generic(0, 3), MultiDispatch.OK);
        body(x, ARG, 2);
        due("method", x.method(0), 0);
        dueCall("call", x.call(0, OBJECT, -2147483648L, 2147483647L), x, MultiDispatch.OK, 2147483647L, 1);
        dueCall("call", x.call(0, OBJECT, -2147483647L, 2147483647L), x, MultiDispatch.NO_METHOD, NOTHING, 0);
        due("the int 1 alone", methodOfValue(x, 1, 1, NUM, 11), 1);
        due("class 1", method(x, 1, 1, NUM, 12), 2);
        dueCall(x, 1, 1, MultiDispatch.OK, 11, 1);
        dueCall(x, 1, 2, MultiDispatch.OK, 12, 1);
    }

    private static void token() {
        MultiDispatch x = new MultiDispatch();
        int[][] refused = {{-1, 0}, {13, 0}, {Integer.MIN_VALUE, 0}, {Integer.MAX_VALUE, 0}, {ARG, -1}, {ARG, 3},
            {CALL, -1}, {CALL, 5}, {GET, -1}, {GET, 4}, {SET, -1}, {SET, 4}, {IS, -1}, {IS, 2}, {MAKE, -1}, {MAKE, 2}};
        for (int[] t : refused) {
            due("token(" + t[0] + ", " + t[1] + ")", x.token(t[0], t[1]), false);
        }
        body(x, NUM, Integer.MIN_VALUE, NEXT, -9, ADD, 99, SUB, -1, LESS, 77, IF, Integer.MAX_VALUE, SEQ, -1);
        body(x, ARG, 2, CALL, 4, GET, 3, SET, 3, IS, 1, MAKE, 1, ARG, 0, CALL, 0, GET, 0);
        due("a seventeenth", x.token(NUM, 0), false);
        due("end the draft", x.method(0), MultiDispatch.SYNTAX);
        due("the draft is empty", x.token(NUM, 0), true);
        due("end the draft", x.method(0), MultiDispatch.SYNTAX);
        classes(x, 0);
        for (int i = 0; i < 15; i++) {
            due("token(IS)", x.token(IS, 1), true);
        }
        body(x, NUM, Integer.MIN_VALUE);
        due("a body of sixteen", x.method(0), 0);
        dueCall(x, 0, 5, MultiDispatch.OK, 1, 16);
        due("define", x.define(), 2);
        due("token(IS, 2)", x.token(IS, 2), true);
        due("token(MAKE, 3)", x.token(MAKE, 3), false);
    }

    private static void method() {
        MultiDispatch x = new MultiDispatch();
        due("generic(1, 2)", x.generic(1, 2), MultiDispatch.OK);
        int[][] refused = {{}, {NUM, 1, NUM, 2}, {ADD, 0, NUM, 1}, {NEXT, 0, NEXT, 0}, {ARG, 1}, {ARG, 2},
            {CALL, 1, NUM, 1}, {CALL, 0}, {CALL, 0, NUM, 1, NUM, 2}, {GET, 0}, {SET, 0, NUM, 1}, {IF, 0, NUM, 1, NUM, 2},
            {SEQ, 0, NUM, 1}, {IS, 0}, {MAKE, 0, NUM, 1}, {SUB, 0, NUM, 1}, {LESS, 0, NUM, 1}, {ADD, 0, NUM, 1, ARG, 1}};
        for (int i = 0; i < refused.length; i++) {
            due("body " + i, method(x, 0, 0, refused[i]), MultiDispatch.SYNTAX);
        }
        body(x, NUM, 1);
        due("no specialiser", x.method(0), MultiDispatch.SYNTAX);
        due("one too many", methodOfTwo(x, 0, 0, 0, NUM, 1), MultiDispatch.SYNTAX);
        due("one too few", method(x, 1, 0, NUM, 1), MultiDispatch.SYNTAX);
        classes(x, 0);
        body(x, NUM, 6);
        due("method(-1)", x.method(-1), MultiDispatch.BAD);
        due("method(5)", x.method(5), MultiDispatch.BAD);
        due("the drafts stayed", x.method(0), 0);
        dueCall(x, 0, 1, MultiDispatch.OK, 6, 1);
        due("the drafts are empty", method(x, 0, 1, NUM, 8), 1);
        due("two parameters", methodOfTwo(x, 1, 0, 1, ARG, 1), 2);
        due("two parameters turned", methodOfTwo(x, 1, 1, 0, ARG, 0), 3);
        due("the same specialisers of another generic", method(x, 2, 1, NUM, 8), 4);
        due("the same specialisers", methodOfTwo(x, 1, 0, 1, NUM, 70), 2);
        dueCall("call(1, object, 5)", x.call(1, OBJECT + x.make(0), 5, 0), x, MultiDispatch.OK, 70, 1);
        due("remove(3)", x.remove(3), true);
        due("remove(1)", x.remove(1), true);
        due("the least free", methodOfValue(x, 3, 1, NUM, 0), 1);
        due("the same specialisers, with a free number below", methodOfTwo(x, 1, 0, 1, NUM, 71), 2);
        due("the next free", methodOfValue(x, 3, 2, NUM, 0), 3);
        due("the next free", methodOfValue(x, 3, 3, NUM, 0), 5);
        due("all kinds", method(x, 4, 0, IF, 0, LESS, 0, NUM, 1, NUM, 2, SEQ, 0, NUM, 1, NUM, 2, NEXT, 0), 6);
    }

    private static void remove() {
        MultiDispatch x = new MultiDispatch();
        due("remove(0), none", x.remove(0), false);
        due("remove(-1)", x.remove(-1), false);
        due("remove(24)", x.remove(24), false);
        due("remove(MAX)", x.remove(Integer.MAX_VALUE), false);
        due("remove(MIN)", x.remove(Integer.MIN_VALUE), false);
        for (int v = 0; v < 24; v++) {
            due("method", methodOfValue(x, 0, v, NUM, v), v);
        }
        due("remove(23)", x.remove(23), true);
        due("remove(23) again", x.remove(23), false);
        dueCall(x, 0, 23, MultiDispatch.NO_METHOD, NOTHING, 0);
        dueCall(x, 0, 22, MultiDispatch.OK, 22, 1);
        due("remove(7)", x.remove(7), true);
        due("order", x.order(0, 7, 0, 0, 0), -1);
        due("its number is free", methodOfValue(x, 1, 7, NUM, 7), 7);
    }

    private static void make() {
        MultiDispatch x = new MultiDispatch();
        due("make(-1)", x.make(-1), MultiDispatch.BAD);
        due("make(1)", x.make(1), MultiDispatch.BAD);
        due("make(2)", x.make(2), MultiDispatch.BAD);
        due("make(MAX)", x.make(Integer.MAX_VALUE), MultiDispatch.BAD);
        due("slot(2)", x.slot(2, 5), true);
        due("define below 1", define(x, 1), 2);
        due("slot(2)", x.slot(2, 6), true);
        due("slot(0)", x.slot(0, 7), true);
        due("define", x.define(), 3);
        due("define", define(x, 2, 3), 4);
        due("define", define(x, 3, 2), 5);
        due("make(4)", x.make(4), 0);
        due("get(0, 2) of the first in line", x.get(0, 2), 5);
        due("get(0, 0)", x.get(0, 0), 7);
        due("make(5)", x.make(5), 1);
        due("get(1, 2) of the first in line", x.get(1, 2), 6);
        for (int k = 2; k < 20; k++) {
            due("make(2)", x.make(2), k);
        }
        due("make(2), a twenty-first", x.make(2), MultiDispatch.FULL);
        due("classOf the last", x.classOf(OBJECT + 19), 2);
    }

    private static void clear() {
        MultiDispatch x = new MultiDispatch();
        due("generic(1, 2)", x.generic(1, 2), MultiDispatch.OK);
        due("make(0)", x.make(0), 0);
        due("make(0)", x.make(0), 1);
        due("a method of object 0", methodOfValue(x, 0, OBJECT, NUM, 1), 0);
        due("a method of an int", methodOfValue(x, 0, 0, NUM, 2), 1);
        due("special", x.special(false, 0), true);
        due("a method with an object as its second", methodOfValue(x, 1, OBJECT + 1, NUM, 3), 2);
        due("a method of a class", method(x, 0, 0, NUM, 4), 3);
        dueCall(x, 0, OBJECT, MultiDispatch.OK, 1, 1);
        due("special", x.special(true, OBJECT), true);
        body(x, NUM, 5);
        due("clear", x.clear(), 2);
        due("result stays", x.result(), 1);
        due("remove(0)", x.remove(0), false);
        due("remove(2)", x.remove(2), false);
        due("classOf object 0", x.classOf(OBJECT), -1);
        due("the specialisers are empty, the body is not", method(x, 2, 1), 0);
        dueCall(x, 2, 1, MultiDispatch.OK, 5, 1);
        due("clear without objects", x.clear(), 0);
        due("make(0)", x.make(0), 0);
        dueCall(x, 0, OBJECT, MultiDispatch.OK, 4, 1);
        dueCall(x, 0, 0, MultiDispatch.OK, 2, 1);
        due("special", x.special(false, 0), true);
        due("clear", x.clear(), 1);
        due("a draft of classes is empty too", method(x, 2, 0, NUM, 6), 2);
        due("under(1) is no draft of specialisers", x.under(1), true);
        due("slot(0)", x.slot(0, 8), true);
        due("clear", x.clear(), 0);
        due("define", x.define(), 2);
        dueLine(x, 2, 2, 1, 0);
        due("make(2)", x.make(2), 0);
        due("get(0, 0)", x.get(0, 0), 8);
    }

    private static void clearTakesStaleSpecialisersForNothing() {
        MultiDispatch x = new MultiDispatch();
        due("generic(0, 2)", x.generic(0, 2), MultiDispatch.OK);
        due("make(0)", x.make(0), 0);
        due("special", x.special(false, 0), true);
        due("a method with an object as its second", methodOfValue(x, 0, OBJECT, NUM, 1), 0);
        due("remove(0)", x.remove(0), true);
        due("a method of one parameter in its place", method(x, 1, 0, NUM, 2), 0);
        due("clear", x.clear(), 1);
        dueCall(x, 1, 4, MultiDispatch.OK, 2, 1);
    }

    private static void call() {
        MultiDispatch x = new MultiDispatch();
        due("generic(1, 2)", x.generic(1, 2), MultiDispatch.OK);
        due("generic(2, 3)", x.generic(2, 3), MultiDispatch.OK);
        due("make(0)", x.make(0), 0);
        due("method", method(x, 0, 1, ARG, 0), 0);
        due("method", methodOfTwo(x, 1, 0, 1, ARG, 1), 1);
        classes(x, 0, 0, 1);
        body(x, ARG, 2);
        due("method", x.method(2), 2);
        dueCall(x, 0, 9, MultiDispatch.OK, 9, 1);
        int[] badGenerics = {-1, 5, Integer.MIN_VALUE, Integer.MAX_VALUE};
        for (int g : badGenerics) {
            dueCall("call(" + g + ")", x.call(g, 1, 1, 1), x, MultiDispatch.BAD, 9, 1);
        }
        long[] badValues = {2147483648L, -2147483649L, OBJECT - 1, OBJECT + 1, Long.MIN_VALUE, Long.MAX_VALUE, 2 * OBJECT};
        for (long v : badValues) {
            dueCall("call(0, " + v + ")", x.call(0, v, 0, 0), x, MultiDispatch.BAD, 9, 1);
            dueCall("call(1, 1, " + v + ")", x.call(1, 1, v, 0), x, MultiDispatch.BAD, 9, 1);
            dueCall("call(2, 1, 1, " + v + ")", x.call(2, 1, 1, v), x, MultiDispatch.BAD, 9, 1);
        }
        dueCall("what is behind the parameters is free", x.call(1, OBJECT, 4, OBJECT + 1), x, MultiDispatch.OK, 4, 1);
        dueCall("what is behind the parameters is free", x.call(0, 3, 1L << 40, OBJECT + 1), x, MultiDispatch.OK, 3, 1);
        dueCall(x, 0, OBJECT, MultiDispatch.NO_METHOD, NOTHING, 0);
        dueCall("call(2)", x.call(2, 1, 1, -7), x, MultiDispatch.OK, -7, 1);
    }

    private static void expressions() {
        MultiDispatch x = new MultiDispatch();
        due("slot(0)", x.slot(0, 3), true);
        due("define", x.define(), 2);
        due("define below 1", define(x, 1), 3);
        due("make(2)", x.make(2), 0);
        due("make(3)", x.make(3), 1);
        int max = Integer.MAX_VALUE;
        int min = Integer.MIN_VALUE;
        method(x, 0, 0, ADD, 0, NUM, max, NUM, 1);
        dueCall(x, 0, 0, MultiDispatch.OK, min, 3);
        method(x, 0, 0, SUB, 0, NUM, min, NUM, 1);
        dueCall(x, 0, 0, MultiDispatch.OK, max, 3);
        method(x, 0, 0, SUB, 0, NUM, 3, NUM, 10);
        dueCall(x, 0, 0, MultiDispatch.OK, -7, 3);
        method(x, 0, 0, LESS, 0, NUM, min, NUM, max);
        dueCall(x, 0, 0, MultiDispatch.OK, 1, 3);
        method(x, 0, 0, LESS, 0, NUM, 4, NUM, 4);
        dueCall(x, 0, 0, MultiDispatch.OK, 0, 3);
        for (int kind = ADD; kind <= LESS; kind++) {
            method(x, 0, 0, kind, 0, ARG, 0, NUM, 4);
            dueCall(x, 0, OBJECT, MultiDispatch.TYPE, NOTHING, 3);
            dueCall(x, 0, OBJECT + 1, MultiDispatch.TYPE, NOTHING, 3);
            method(x, 0, 0, kind, 0, NUM, 4, ARG, 0);
            dueCall(x, 0, OBJECT, MultiDispatch.TYPE, NOTHING, 3);
        }
        method(x, 0, 0, IF, 0, ARG, 0, NUM, 10, NUM, 20);
        dueCall(x, 0, 0, MultiDispatch.OK, 20, 3);
        dueCall(x, 0, -1, MultiDispatch.OK, 10, 3);
        dueCall(x, 0, OBJECT, MultiDispatch.OK, 10, 3);
        method(x, 0, 0, ADD, 0, IF, 0, ARG, 0, ADD, 0, NUM, 1, NUM, 2, SUB, 0, NUM, 1, NUM, 2, NUM, 100);
        dueCall(x, 0, 0, MultiDispatch.OK, 99, 7);
        dueCall(x, 0, 5, MultiDispatch.OK, 103, 7);
        method(x, 0, 0, IF, 0, IF, 0, ARG, 0, NUM, 0, NUM, 1, NUM, 5, IF, 0, ARG, 0, NUM, 6, NUM, 7);
        dueCall(x, 0, 0, MultiDispatch.OK, 5, 5);
        dueCall(x, 0, 1, MultiDispatch.OK, 6, 7);
        method(x, 0, 0, SEQ, 0, SEQ, 0, NUM, 1, NUM, 2, NUM, 3);
        dueCall(x, 0, 0, MultiDispatch.OK, 3, 5);
        method(x, 0, 0, IS, 1, ARG, 0);
        dueCall(x, 0, 0, MultiDispatch.OK, 1, 2);
        dueCall(x, 0, OBJECT, MultiDispatch.OK, 0, 2);
        dueCall(x, 0, OBJECT + 1, MultiDispatch.OK, 1, 2);
        method(x, 0, 0, IS, 3, ARG, 0);
        dueCall(x, 0, 0, MultiDispatch.OK, 0, 2);
    }

    private static void slotsAndObjectsInBodies() {
        MultiDispatch x = new MultiDispatch();
        due("slot(0)", x.slot(0, 3), true);
        due("define", x.define(), 2);
        due("make(2)", x.make(2), 0);
        method(x, 0, 0, GET, 0, ARG, 0);
        dueCall(x, 0, OBJECT, MultiDispatch.OK, 3, 2);
        dueCall(x, 0, 0, MultiDispatch.NO_SLOT, NOTHING, 2);
        method(x, 0, 0, GET, 1, ARG, 0);
        dueCall(x, 0, OBJECT, MultiDispatch.NO_SLOT, NOTHING, 2);
        method(x, 0, 0, SET, 0, ARG, 0, ARG, 0);
        dueCall(x, 0, OBJECT, MultiDispatch.OK, OBJECT, 3);
        due("get(0, 0)", x.get(0, 0), OBJECT);
        method(x, 0, 0, SET, 0, GET, 0, ARG, 0, NUM, -8);
        dueCall(x, 0, OBJECT, MultiDispatch.OK, -8, 4);
        due("get(0, 0)", x.get(0, 0), -8);
        method(x, 0, 0, SET, 1, ARG, 0, SET, 0, ARG, 0, NUM, 12);
        dueCall(x, 0, OBJECT, MultiDispatch.NO_SLOT, NOTHING, 5);
        due("what was done before the fault stays", x.get(0, 0), 12);
        method(x, 0, 0, SET, 0, NUM, 4, ADD, 0, ARG, 0, NUM, 1);
        dueCall(x, 0, OBJECT, MultiDispatch.TYPE, NOTHING, 5);
        dueCall(x, 0, 1, MultiDispatch.NO_SLOT, NOTHING, 5);
        method(x, 0, 0, MAKE, 1);
        dueCall(x, 0, 1, MultiDispatch.TYPE, NOTHING, 1);
        method(x, 0, 0, GET, 0, MAKE, 2);
        dueCall(x, 0, 1, MultiDispatch.OK, 3, 2);
        due("classOf object 1", x.classOf(OBJECT + 1), 2);
        method(x, 0, 0, SEQ, 0, MAKE, 0, NEXT, 0);
        dueCall(x, 0, 1, MultiDispatch.NO_NEXT, NOTHING, 3);
        due("the object that was made before the fault stays", x.classOf(OBJECT + 2), 0);
        for (int k = 3; k < 20; k++) {
            due("make", x.make(0), k);
        }
        dueCall(x, 0, 1, MultiDispatch.FULL, NOTHING, 2);
        method(x, 0, 0, MAKE, 1);
        dueCall(x, 0, 1, MultiDispatch.TYPE, NOTHING, 1);
    }

    private static void nextAndDepth() {
        MultiDispatch x = new MultiDispatch();
        due("generic(1, 2)", x.generic(1, 2), MultiDispatch.OK);
        int last = 0;
        method(x, 0, 0, ARG, 0);
        for (int c = 2; c < 9; c++) {
            due("define", define(x, last), c);
            method(x, 0, c, NEXT, 0);
            last = c;
        }
        due("make(8)", x.make(8), 0);
        dueCall("eight calls at work", x.call(0, OBJECT, 0, 0), x, MultiDispatch.OK, OBJECT, 8);
        methodOfValue(x, 0, OBJECT, NEXT, 0);
        dueCall("nine", x.call(0, OBJECT, 0, 0), x, MultiDispatch.DEEP, NOTHING, 8);
        due("take the last away", x.remove(0), true);
        dueCall("no ninth: not DEEP", x.call(0, OBJECT, 0, 0), x, MultiDispatch.NO_NEXT, NOTHING, 8);
        due("a method at the last place in its stead", methodOfTwo(x, 1, 8, 0, NUM, 1), 0);
        methodOfTwo(x, 1, 0, 8, NUM, 2);
        dueCall("broken", x.call(1, OBJECT, OBJECT, 0), x, MultiDispatch.AMBIGUOUS, NOTHING, 0);
        methodOfTwo(x, 1, 8, 8, NEXT, 0);
        dueCall("broken behind", x.call(1, OBJECT, OBJECT, 0), x, MultiDispatch.AMBIGUOUS, NOTHING, 1);
        methodOfTwo(x, 1, 0, 0, NUM, 5);
        due("a first that asks nothing", methodOfTwo(x, 1, 8, 8, NUM, 3) >= 0, true);
        dueCall("broken behind, unasked", x.call(1, OBJECT, OBJECT, 0), x, MultiDispatch.OK, 3, 1);
        dueCall("call(1, 1, 1)", x.call(1, 1, 1, 0), x, MultiDispatch.OK, 5, 1);
    }

    private static void nextKeepsArgumentsAndPlace() {
        MultiDispatch x = new MultiDispatch();
        method(x, 0, 0, ADD, 0, ARG, 0, NUM, 1);
        method(x, 0, 1, ADD, 0, NEXT, 0, NEXT, 0);
        methodOfValue(x, 0, 7, ADD, 0, NEXT, 0, ADD, 0, CALL, 0, NUM, 50, NEXT, 0);
        dueCall(x, 0, 50, MultiDispatch.OK, 102, 9);
        dueCall(x, 0, 7, MultiDispatch.OK, 16 + 102 + 16, 6 + 9 + 9 + 9);
        method(x, 1, 0, CALL, 2, NUM, 1, NUM, 2, NUM, 3);
        due("as many E as it has parameters", x.remove(3), false);
        due("generic(2, 3)", x.generic(2, 3), MultiDispatch.OK);
        classes(x, 0, 0, 0);
        body(x, SUB, 0, ARG, 0, SUB, 0, ARG, 1, ARG, 2);
        due("method", x.method(2), 3);
        method(x, 1, 0, CALL, 2, ADD, 0, NUM, 50, NUM, 50, ARG, 0, NUM, 3);
        dueCall(x, 1, 10, MultiDispatch.OK, 100 - (10 - 3), 6 + 5);
        method(x, 1, 1, SEQ, 0, CALL, 2, NUM, 1, NUM, 2, NUM, 3, NEXT, 0);
        dueCall("NEXT behind another generic's call", x.call(1, 10, 0, 0), x, MultiDispatch.OK, 93, 6 + 5 + 6 + 5);
        due("remove", x.remove(x.order(1, 10, 0, 0, 0)), true);
        method(x, 1, 0, CALL, 1, CALL, 1, ARG, 0);
        dueCall("an argument's call ends before", x.call(1, 1, 0, 0), x, MultiDispatch.DEEP, NOTHING, 24);
    }

    private static void faultsLeaveNothingBehind() {
        MultiDispatch x = new MultiDispatch();
        method(x, 0, 0, ADD, 0, NUM, 1, ADD, 0, NUM, 1, ADD, 0, NUM, 1, GET, 0, ARG, 0);
        method(x, 1, 0, ADD, 0, NUM, 1, ADD, 0, NUM, 1, ADD, 0, NUM, 1, ARG, 0);
        for (int n = 0; n < 50; n++) {
            dueCall(x, 0, n, MultiDispatch.NO_SLOT, NOTHING, 8);
            dueCall(x, 1, n, MultiDispatch.OK, n + 3, 7);
        }
    }

    private static void result() {
        MultiDispatch x = new MultiDispatch();
        due("at first", x.result(), NOTHING);
        due("call, BAD", x.call(9, 0, 0, 0), MultiDispatch.BAD);
        due("after BAD alone", x.result(), NOTHING);
        method(x, 0, 1, ARG, 0);
        method(x, 0, 0, MAKE, 0);
        due("make", x.make(0), 0);
        dueCall(x, 0, -2147483648L, MultiDispatch.OK, -2147483648L, 1);
        due("call, BAD", x.call(0, OBJECT + 5, 0, 0), MultiDispatch.BAD);
        due("after BAD", x.result(), -2147483648L);
        due("order", x.order(0, 1, 0, 0, 0), 0);
        due("after order", x.result(), -2147483648L);
        dueCall(x, 0, OBJECT, MultiDispatch.OK, OBJECT + 1, 1);
        dueCall(x, 1, 1, MultiDispatch.NO_METHOD, NOTHING, 0);
        due("call, BAD", x.call(-1, 0, 0, 0), MultiDispatch.BAD);
        due("after a fault and BAD", x.result(), NOTHING);
    }

    private static void steps() {
        MultiDispatch x = new MultiDispatch();
        due("at first", x.steps(), 0);
        method(x, 1, 0, ADD, 0, ADD, 0, ADD, 0, ADD, 0, ADD, 0, ADD, 0, NUM, 1, NUM, 1, NUM, 1, NUM, 1, NUM, 1, NUM, 1, NUM, 1);
        dueCall(x, 1, 0, MultiDispatch.OK, 7, 13);
        method(x, 2, 0, SEQ, 0, SEQ, 0, CALL, 1, NUM, 0, CALL, 1, NUM, 0, SEQ, 0, CALL, 1, NUM, 0, CALL, 1, NUM, 0);
        dueCall(x, 2, 0, MultiDispatch.OK, 7, 3 + 4 * 15);
        method(x, 3, 0, SEQ, 0, CALL, 2, NUM, 0, SEQ, 0, CALL, 1, NUM, 0, SEQ, 0, CALL, 1, NUM, 0, CALL, 4, ARG, 0);
        int used = 3 + 63 + 1 + 15 + 1 + 15 + 2;
        due("used", used, 100);
        method(x, 4, 0, SEQ, 0, CALL, 1, NUM, 0, SEQ, 0, NUM, 1, NUM, 2);
        dueCall(x, 3, 0, MultiDispatch.OK, 2, 119);
        method(x, 4, 0, SEQ, 0, CALL, 1, NUM, 0, IS, 0, IS, 0, IS, 0, NUM, 2);
        dueCall("the last step", x.call(3, 0, 0, 0), x, MultiDispatch.OK, 1, 120);
        method(x, 4, 0, SEQ, 0, CALL, 1, NUM, 0, SEQ, 0, MAKE, 0, SEQ, 0, MAKE, 0, MAKE, 0);
        dueCall("one more", x.call(3, 0, 0, 0), x, MultiDispatch.LONG, NOTHING, 120);
        due("two were made", x.clear(), 2);
        method(x, 4, 0, SEQ, 0, CALL, 1, NUM, 0, SEQ, 0, NUM, 1, SEQ, 0, NUM, 1, NEXT, 0);
        dueCall("LONG before NO_NEXT", x.call(3, 0, 0, 0), x, MultiDispatch.LONG, NOTHING, 120);
        method(x, 4, 0, SEQ, 0, CALL, 1, NUM, 0, SEQ, 0, NUM, 1, SEQ, 0, NUM, 1, MAKE, 1);
        dueCall("LONG before TYPE", x.call(3, 0, 0, 0), x, MultiDispatch.LONG, NOTHING, 120);
        method(x, 4, 0, SEQ, 0, CALL, 1, NUM, 0, IS, 0, IS, 0, IS, 0, MAKE, 1);
        dueCall("a fault at the last step", x.call(3, 0, 0, 0), x, MultiDispatch.TYPE, NOTHING, 120);
        due("call, BAD", x.call(7, 0, 0, 0), MultiDispatch.BAD);
        due("steps after BAD", x.steps(), 120);
        dueCall(x, 1, 0, MultiDispatch.OK, 7, 13);
    }

    private static void order() {
        MultiDispatch x = new MultiDispatch();
        due("generic(1, 2)", x.generic(1, 2), MultiDispatch.OK);
        due("A", x.define(), 2);
        due("B", x.define(), 3);
        due("C", define(x, 2, 3), 4);
        due("D", define(x, 3, 2), 5);
        due("make(4)", x.make(4), 0);
        due("make(5)", x.make(5), 1);
        due("m0", method(x, 0, 0, NUM, 0), 0);
        due("m1", method(x, 0, 2, NUM, 0), 1);
        due("m2", method(x, 0, 3, NUM, 0), 2);
        due("m3", methodOfValue(x, 0, OBJECT, NUM, 0), 3);
        dueOrder(x, 0, OBJECT, 0, 3, 1, 2, 0, -1, -1);
        dueOrder(x, 0, OBJECT + 1, 0, 2, 1, 0, -1);
        dueOrder(x, 0, 8, 0, 0, -1);
        due("m4", methodOfTwo(x, 1, 2, 3, NUM, 0), 4);
        due("m5", methodOfTwo(x, 1, 3, 2, NUM, 0), 5);
        due("m6", methodOfTwo(x, 1, 2, 2, NUM, 0), 6);
        due("m7", methodOfTwo(x, 1, 0, 0, NUM, 0), 7);
        // Object 0 is nearer 2, object 1 is nearer 3.
        dueOrder(x, 1, OBJECT, OBJECT, 6, -2, -2, -2, -2);
        dueOrder(x, 1, OBJECT, OBJECT + 1, 4, 6, 5, 7, -1);
        dueOrder(x, 1, OBJECT + 1, OBJECT, 5, 6, 4, 7, -1);
        dueOrder(x, 1, OBJECT + 1, OBJECT + 1, -2, -2, -2, -2, -2);
        int[] far = {23, 24, 25, 26, Integer.MAX_VALUE};
        for (int k : far) {
            due("order of 0 at " + k, x.order(0, OBJECT, 0, 0, k), -1);
            due("broken order at " + k, x.order(1, OBJECT, OBJECT, 0, k), MultiDispatch.BROKEN);
        }
        due("order at -1", x.order(0, OBJECT, 0, 0, -1), -1);
        due("broken order at -1", x.order(1, OBJECT + 1, OBJECT + 1, 0, -1), -1);
        due("order at MIN", x.order(1, OBJECT + 1, OBJECT + 1, 0, Integer.MIN_VALUE), -1);
        due("order(-1)", x.order(-1, 0, 0, 0, 0), -1);
        due("order(5)", x.order(5, 0, 0, 0, 0), -1);
        due("no such object", x.order(0, OBJECT + 2, 0, 0, 0), -1);
        due("no such object as the second", x.order(1, OBJECT, OBJECT + 2, 0, 0), -1);
        due("what is behind the parameters is free", x.order(0, OBJECT, OBJECT + 2, 1L << 50, 0), 3);
    }

    private static void orderOfAll() {
        MultiDispatch x = new MultiDispatch();
        int last = 1;
        for (int c = 2; c < 16; c++) {
            due("define", define(x, last), c);
            last = c;
        }
        due("make(15)", x.make(15), 0);
        for (int c = 0; c < 16; c++) {
            due("method", method(x, 0, c, NUM, c), c);
        }
        due("of the value", methodOfValue(x, 0, OBJECT, NUM, 99), 16);
        due("first", x.order(0, OBJECT, 0, 0, 0), 16);
        for (int k = 1; k < 17; k++) {
            due("place " + k, x.order(0, OBJECT, 0, 0, k), 16 - k);
        }
        due("over", x.order(0, OBJECT, 0, 0, 17), -1);
    }

    private static void get() {
        MultiDispatch x = new MultiDispatch();
        due("slot(1)", x.slot(1, 0), true);
        due("define", x.define(), 2);
        due("get(0, 1) before make", x.get(0, 1), NOTHING);
        due("make(2)", x.make(2), 0);
        due("make(0)", x.make(0), 1);
        due("get(0, 1)", x.get(0, 1), 0);
        due("get(0, 0)", x.get(0, 0), NOTHING);
        due("get(1, 1)", x.get(1, 1), NOTHING);
        due("get(2, 1)", x.get(2, 1), NOTHING);
        due("get(-1, 1)", x.get(-1, 1), NOTHING);
        due("get(0, -1)", x.get(0, -1), NOTHING);
        due("get(0, 4)", x.get(0, 4), NOTHING);
        due("get(1, -3), of object 0 if it were not looked at", x.get(1, -3), NOTHING);
        due("get(MAX, MAX)", x.get(Integer.MAX_VALUE, Integer.MAX_VALUE), NOTHING);
        due("get(MIN, MIN)", x.get(Integer.MIN_VALUE, Integer.MIN_VALUE), NOTHING);
        method(x, 0, 2, SET, 1, ARG, 0, MAKE, 2);
        dueCall(x, 0, OBJECT, MultiDispatch.OK, OBJECT + 2, 3);
        due("get(0, 1)", x.get(0, 1), OBJECT + 2);
        due("get(2, 1)", x.get(2, 1), 0);
        due("clear", x.clear(), 3);
        due("get(0, 1) after clear", x.get(0, 1), NOTHING);
        due("make(0)", x.make(0), 0);
        due("get(0, 1) of another class's object", x.get(0, 1), NOTHING);
        due("make(2)", x.make(2), 1);
        due("get(1, 1)", x.get(1, 1), 0);
    }

    private static void classOf() {
        MultiDispatch x = new MultiDispatch();
        due("0", x.classOf(0), 1);
        due("least int", x.classOf(-2147483648L), 1);
        due("greatest int", x.classOf(2147483647L), 1);
        due("above", x.classOf(2147483648L), -1);
        due("below", x.classOf(-2147483649L), -1);
        due("no object", x.classOf(OBJECT), -1);
        due("define", x.define(), 2);
        due("make(2)", x.make(2), 0);
        due("make(0)", x.make(0), 1);
        due("object 0", x.classOf(OBJECT), 2);
        due("object 1", x.classOf(OBJECT + 1), 0);
        due("object 2", x.classOf(OBJECT + 2), -1);
        due("below the objects", x.classOf(OBJECT - 1), -1);
        due("MIN", x.classOf(Long.MIN_VALUE), -1);
        due("MAX", x.classOf(Long.MAX_VALUE), -1);
        due("far above", x.classOf(2 * OBJECT), -1);
    }

    private static void orderAndLimits() {
        MultiDispatch x = new MultiDispatch();
        due("define", x.define(), 2);
        due("seal(2)", x.seal(2), true);
        due("SEALED before BROKEN", define(x, 0, 2), MultiDispatch.SEALED);
        due("the draft is empty", x.under(0), true);
        due("slot(0)", x.slot(0, 1), true);
        due("under(1)", x.under(1), true);
        due("BROKEN", x.define(), MultiDispatch.BROKEN);
        due("the drafts are empty", x.slot(0, 2), true);
        due("define", x.define(), 3);
        due("make(3)", x.make(3), 0);
        due("get(0, 0)", x.get(0, 0), 2);
        for (int c = 4; c < 16; c++) {
            due("define", x.define(), c);
        }
        due("FULL before SEALED", define(x, 2), MultiDispatch.FULL);
        for (int v = 0; v < 24; v++) {
            due("method", methodOfValue(x, 0, v, NUM, v), v);
        }
        due("BAD before all", methodOfValue(x, 5, 1), MultiDispatch.BAD);
        due("SYNTAX before FULL", x.method(0), MultiDispatch.SYNTAX);
        due("FULL", methodOfValue(x, 0, 24, NUM, 1), MultiDispatch.FULL);
        due("the drafts are empty after FULL", methodOfValue(x, 0, 23, NUM, 77), 23);
        dueCall(x, 0, 23, MultiDispatch.OK, 77, 1);
        due("SYNTAX where it would take a place", methodOfValue(x, 0, 23, ADD, 77), MultiDispatch.SYNTAX);
        dueCall(x, 0, 23, MultiDispatch.OK, 77, 1);
        due("FULL for another generic", methodOfValue(x, 1, 23, NUM, 77), MultiDispatch.FULL);
        for (int k = 1; k < 20; k++) {
            due("make", x.make(0), k);
        }
        due("BAD before FULL", x.make(1), MultiDispatch.BAD);
        due("BAD before FULL", x.make(16), MultiDispatch.BAD);
        due("FULL", x.make(15), MultiDispatch.FULL);
    }

    public static void main(String[] args) {
        Runnable[][] promises = {
            {PromiseTest::newObject}, {PromiseTest::under}, {PromiseTest::slot}, {PromiseTest::define},
            {PromiseTest::seal}, {PromiseTest::line}, {PromiseTest::generic}, {PromiseTest::special},
            {PromiseTest::token}, {PromiseTest::method}, {PromiseTest::remove}, {PromiseTest::make},
            {PromiseTest::clear, PromiseTest::clearTakesStaleSpecialisersForNothing},
            {PromiseTest::call, PromiseTest::expressions, PromiseTest::slotsAndObjectsInBodies,
                PromiseTest::nextAndDepth, PromiseTest::nextKeepsArgumentsAndPlace,
                PromiseTest::faultsLeaveNothingBehind},
            {PromiseTest::result}, {PromiseTest::steps}, {PromiseTest::order, PromiseTest::orderOfAll},
            {PromiseTest::get}, {PromiseTest::classOf}, {PromiseTest::orderAndLimits}};
        for (Runnable[] groups : promises) {
            promise++;
            for (Runnable group : groups) {
                group.run();
            }
        }
        System.out.println(wrong == 0 ? "all " + promise + " promises hold" : wrong + " answers are not as due");
        System.exit(wrong == 0 ? 0 : 1);
    }
}
