/** A test for each boundary case that the document's promises name. */
public final class PromiseBoundaryTest {
    private static final int OK = MultiDispatch.OK, NO_METHOD = MultiDispatch.NO_METHOD;
    private static final int AMBIGUOUS = MultiDispatch.AMBIGUOUS, NO_NEXT = MultiDispatch.NO_NEXT;
    private static final int NO_SLOT = MultiDispatch.NO_SLOT, TYPE = MultiDispatch.TYPE, DEEP = MultiDispatch.DEEP;
    private static final int LONG = MultiDispatch.LONG, FULL = MultiDispatch.FULL, BAD = MultiDispatch.BAD;
    private static final int BROKEN = MultiDispatch.BROKEN, SEALED = MultiDispatch.SEALED, SYNTAX = MultiDispatch.SYNTAX;
    private static final int NUM = 0, ARG = 1, NEXT = 2, CALL = 3, GET = 4, SET = 5, ADD = 6, SUB = 7, LESS = 8;
    private static final int IF = 9, SEQ = 10, IS = 11, MAKE = 12;
    private static final long NOTHING = Bench.NOTHING, OBJECT = Bench.OBJECT;
    private static final int LEAST = Bench.LEAST, GREATEST = Bench.GREATEST;

    private static void newObject(Sentences s) {
        s.at("Promise 1");
        s.test("Classes 0 and 1 without slots", b -> {
            b.line(0, 0);
            b.line(1, 1, 0);
            b.due("no class 2", b.x.line(2, 0), -1);
            b.due("below 1", b.define(1), 2);
            b.x.make(0);
            b.x.make(2);
            for (int n = 0; n < 4; n++) {
                b.due("a slot by class 0", b.x.get(0, n), NOTHING);
                b.due("a slot by class 1", b.x.get(1, n), NOTHING);
            }
        });
        s.test("generics with one parameter", b -> {
            for (int g = 0; g < 5; g++) {
                b.due("none", b.method(g, "", "NUM 1"), SYNTAX);
                b.due("two", b.method(g, "0 0", "NUM 1"), SYNTAX);
                b.due("one", b.method(g, "0", "NUM 1"), g);
            }
        });
        s.test("and without methods", b -> {
            for (int g = 0; g < 5; g++) {
                b.fault(NO_METHOD, 0, g, 1);
            }
            for (int m = 0; m < 24; m++) {
                b.no("remove(" + m + ")", b.x.remove(m));
            }
        });
        s.test("no objects", b -> {
            b.due("classOf object 0", b.x.classOf(OBJECT), -1);
            b.due("clear", b.x.clear(), 0);
        });
        s.test("empty drafts", "of superclasses and slots", b -> {
            b.due("define", b.x.define(), 2);
            b.line(2, 2, 0);
            b.x.make(2);
            for (int n = 0; n < 4; n++) {
                b.due("no slot", b.x.get(0, n), NOTHING);
            }
        });
        s.test("empty drafts", "three superclasses and four slots have room", b -> {
            b.yes("under(1)", b.x.under(1));
            b.yes("under(0)", b.x.under(0));
            for (int n = 0; n < 4; n++) {
                b.yes("slot", b.x.slot(n, 1));
            }
            b.due("define", b.x.define(), 2);
            b.line(2, 2, 1, 0);
        });
        s.test("empty drafts", "of specialisers", b -> {
            b.x.generic(0, 3);
            b.due("three", b.method(0, "0 0 0", "NUM 1"), 0);
        });
        s.test("empty drafts", "of a body", b -> {
            b.due("sixteen tokens", b.method(0, "0", "IS 0 ".repeat(15) + "NUM 1"), 0);
            b.value(1, 16, 0, 1);
        });
    }

    private static void under(Sentences s) {
        s.at("Promise 2");
        s.test("False if there is no such class", b -> {
            b.fillClasses(4);
            for (int c : new int[] {-1, 4, 15, 16, LEAST, GREATEST}) {
                b.no("under(" + c + ")", b.x.under(c));
            }
            b.yes("under(3)", b.x.under(3));
            b.yes("under(0)", b.x.under(0));
            b.due("define", b.x.define(), 4);
            b.line(4, 4, 3, 0);
        });
        s.test("it is in the draft", b -> {
            b.fillClasses(4);
            b.yes("under(2)", b.x.under(2));
            b.no("under(2) again", b.x.under(2));
            b.yes("under(3)", b.x.under(3));
            b.no("under(2), the first", b.x.under(2));
            b.no("under(3), the last", b.x.under(3));
            b.due("define", b.x.define(), 4);
            b.line(4, 4, 2, 3, 0);
            b.yes("under(2) in the next draft", b.x.under(2));
        });
        s.test("or there are 3", b -> {
            b.fillClasses(6);
            b.yes("the first", b.x.under(2));
            b.yes("the second", b.x.under(3));
            b.yes("the third", b.x.under(4));
            b.no("a fourth", b.x.under(5));
            b.due("define", b.x.define(), 6);
            b.line(6, 6, 2, 3, 4, 0);
        });
    }

    private static void slot(Sentences s) {
        s.at("Promise 3");
        s.test("False if the slot is outside 0..3", b -> {
            for (int n : new int[] {-1, 4, LEAST, GREATEST, -4}) {
                b.no("slot(" + n + ")", b.x.slot(n, 7));
            }
            b.yes("slot(0)", b.x.slot(0, 8));
            b.yes("slot(3)", b.x.slot(3, 9));
            b.due("define", b.x.define(), 2);
            b.x.make(2);
            b.x.make(0);
            long[] want = {8, NOTHING, NOTHING, 9};
            for (int n = 0; n < 4; n++) {
                b.due("get(0, " + n + ")", b.x.get(0, n), want[n]);
                b.due("get(1, " + n + ")", b.x.get(1, n), NOTHING);
            }
        });
        s.test("or in the draft", b -> {
            for (int n = 0; n < 4; n++) {
                b.yes("slot(" + n + ")", b.x.slot(n, n == 0 ? LEAST : GREATEST));
            }
            for (int n = 0; n < 4; n++) {
                b.no("slot(" + n + ") again", b.x.slot(n, 5));
            }
            b.due("define", b.x.define(), 2);
            b.x.make(2);
            b.due("the first number stays", b.x.get(0, 0), LEAST);
            b.due("the first number stays", b.x.get(0, 3), GREATEST);
            b.yes("slot(0) in the next draft", b.x.slot(0, 5));
        });
    }

    private static void define(Sentences s) {
        s.at("Promise 4");
        s.test("(0 if there are none)", b -> {
            b.slots(1, 4);
            b.due("define", b.x.define(), 2);
            b.line(2, 2, 0);
        });
        s.test("the drafts are empty then", b -> {
            b.due("2", b.define(), 2);
            b.slots(0, 4, 3, 5);
            b.due("3", b.define(2, 1), 3);
            b.due("4", b.x.define(), 4);
            b.line(4, 4, 0);
            b.x.make(4);
            b.due("no slot 0", b.x.get(0, 0), NOTHING);
            b.due("no slot 3", b.x.get(0, 3), NOTHING);
        });
        s.test("Its number", b -> {
            for (int c = 2; c < 16; c++) {
                b.due("define", b.x.define(), c);
            }
        });
        s.test("FULL if there are 16 (the drafts stay)", b -> {
            b.fillClasses(15);
            b.due("the sixteenth", b.define(3), 15);
            b.due("one more, without drafts", b.x.define(), FULL);
            b.slots(0, 1, 3, 2);
            b.under(4, 5);
            b.due("one more", b.x.define(), FULL);
            b.no("slot(0) is there", b.x.slot(0, 5));
            b.no("slot(3) is there", b.x.slot(3, 5));
            b.no("under(4) is there", b.x.under(4));
            b.no("under(5) is there", b.x.under(5));
            b.yes("a third", b.x.under(6));
            b.no("a fourth", b.x.under(7));
            b.due("and again", b.x.define(), FULL);
            b.no("still three", b.x.under(7));
            b.x.make(15);
            b.due("the draft's slots are not those of 15", b.x.get(0, 0), NOTHING);
            b.line(15, 15, 3, 0);
        });
        for (int place = 0; place < 3; place++) {
            int sealed = 2 + place;
            s.test("SEALED if a superclass is sealed", "superclass " + (place + 1), b -> {
                b.fillClasses(5);
                b.yes("seal", b.x.seal(sealed));
                b.due("below three", b.define(2, 3, 4), SEALED);
                b.due("line(5, 0)", b.x.line(5, 0), -1);
                b.due("not this one", b.define(sealed == 2 ? 3 : 2), 5);
            });
        }
        s.test("SEALED if a superclass is sealed", "class 0 where there are none", b -> {
            b.yes("seal(0)", b.x.seal(0));
            b.due("define", b.x.define(), SEALED);
            b.due("below 1 alone", b.define(1), 2);
        });
        s.test("BROKEN if there is no MERGE", b -> {
            b.fillClasses(3);
            b.due("below 0 and 2", b.define(0, 2), BROKEN);
            b.due("line(3, 0)", b.x.line(3, 0), -1);
            b.due("below 2 and 0", b.define(2, 0), 3);
        });
        s.test("BROKEN if there is no MERGE", "the class that comes then has nothing of it", b -> {
            b.fillClasses(4);
            b.due("below 2 and 3", b.define(2, 3), 4);
            b.due("below 3 and 2", b.define(3, 2), 5);
            b.due("below 4 and 5", b.define(4, 5), BROKEN);
            b.due("below 0", b.define(), 6);
            b.line(6, 6, 0);
            b.fillObjects(6, 1);
            for (int c = 1; c < 6; c++) {
                b.method(0, "0", "IS " + c + " ARG 0");
                b.value(0, 2, 0, OBJECT);
            }
        });
    }

    private static void sealAndLine(Sentences s) {
        s.at("Promise 5");
        s.test("Class c gets no more direct subclasses.", b -> {
            b.chain(0, 3);
            b.yes("seal(2)", b.x.seal(2));
            b.due("a direct one", b.define(2), SEALED);
            b.due("below its subclass", b.define(3), 4);
            b.line(4, 4, 3, 2, 0);
            b.due("the subclass stays", b.x.line(3, 1), 2);
            b.due("it has instances", b.x.make(2), 0);
        });
        s.test("False if there is none", b -> {
            b.fillClasses(3);
            for (int c : new int[] {-1, 3, 15, 16, LEAST, GREATEST}) {
                b.no("seal(" + c + ")", b.x.seal(c));
            }
            b.due("3 is not sealed", b.define(), 3);
            b.due("below 3", b.define(3), 4);
        });
        s.test("or it is sealed", b -> {
            b.fillClasses(16);
            for (int c : new int[] {0, 1, 15}) {
                b.yes("seal(" + c + ")", b.x.seal(c));
                b.no("seal(" + c + ") again", b.x.seal(c));
            }
        });
        s.at("Promise 6");
        s.test("-1 if there is none", "no such place", b -> {
            b.chain(1, 4);
            b.due("the last place", b.x.line(4, 4), 0);
            for (int k : new int[] {-1, 5, 15, 16, LEAST, GREATEST}) {
                b.due("line(4, " + k + ")", b.x.line(4, k), -1);
            }
            b.due("line(0, 1)", b.x.line(0, 1), -1);
            b.due("line(1, 2)", b.x.line(1, 2), -1);
        });
        s.test("-1 if there is none", "no such class", b -> {
            b.fillClasses(3);
            for (int c : new int[] {-1, 3, 15, 16, LEAST, GREATEST}) {
                b.due("line(" + c + ", 0)", b.x.line(c, 0), -1);
            }
        });
        s.test("-1 if there is none", "behind the longest line", b -> {
            b.chain(1, 15);
            b.due("line(15, 15)", b.x.line(15, 15), 0);
            b.due("line(15, 16)", b.x.line(15, 16), -1);
            b.due("line(14, 15)", b.x.line(14, 15), -1);
        });
    }

    private static void generic(Sentences s) {
        s.at("Promise 7");
        s.test("Generic g has n parameters from now on, and no methods.", b -> {
            b.due("3", b.x.generic(2, 3), OK);
            b.due("of three", b.method(2, "0 0 0", "ARG 2"), 0);
            b.value(7, 1, 2, 5, 6, 7);
            b.x.remove(0);
            b.due("1", b.x.generic(2, 1), OK);
            b.fault(NO_METHOD, 0, 2, 5);
            b.due("of three", b.method(2, "0 0 0", "NUM 1"), SYNTAX);
            b.due("of one", b.method(2, "0", "ARG 0"), 0);
            b.due("generic 1 has one as before", b.method(1, "0", "ARG 0"), 1);
            b.due("generic 3 has one as before", b.method(3, "0", "ARG 0"), 2);
        });
        s.test("BAD if g is outside 0..4", b -> {
            for (int g : new int[] {-1, 5, LEAST, GREATEST}) {
                b.due("generic(" + g + ", 1)", b.x.generic(g, 1), BAD);
            }
            b.due("generic(0, 2)", b.x.generic(0, 2), OK);
            b.due("generic(4, 2)", b.x.generic(4, 2), OK);
        });
        s.test("or n outside 1..3", b -> {
            b.x.generic(0, 2);
            for (int n : new int[] {0, 4, -1, LEAST, GREATEST}) {
                b.due("generic(0, " + n + ")", b.x.generic(0, n), BAD);
            }
            b.due("2 as before", b.method(0, "0 0", "ARG 1"), 0);
            b.due("BAD for one with methods too", b.x.generic(0, 4), BAD);
        });
        s.test("SEALED if some method's body calls g", b -> {
            b.x.generic(1, 2);
            b.due("at the first token", b.method(0, "0", "CALL 1 NUM 1 NUM 2"), 0);
            b.due("another number", b.x.generic(1, 1), SEALED);
            b.due("the same number", b.x.generic(1, 2), SEALED);
            b.due("one that is not called", b.x.generic(2, 2), OK);
            b.due("2 as before", b.method(1, "0 0", "NUM 1"), 1);
        });
        s.test("SEALED if some method's body calls g", "at the end of the longest body", b -> {
            b.due("method", b.method(0, "0", "IS 0 ".repeat(14) + "CALL 4 NUM 1"), 0);
            b.due("generic(4, 2)", b.x.generic(4, 2), SEALED);
        });
        s.test("SEALED if some method's body calls g", "where it is never worked out", b -> {
            b.due("method", b.method(0, "0", "IF NUM 1 NUM 2 CALL 3 NUM 1"), 0);
            b.due("generic(3, 2)", b.x.generic(3, 2), SEALED);
        });
        s.test("SEALED if some method's body calls g", "the last method", b -> {
            b.fillMethods(0, 23);
            b.due("method", b.method(0, "0", "CALL 1 NUM 1"), 23);
            b.due("generic(1, 2)", b.x.generic(1, 2), SEALED);
        });
        s.test("SEALED if some method's body calls g", "not a draft, and not a body that is gone", b -> {
            b.tokens("IS 0 CALL 1 NUM 1");
            b.due("a draft", b.x.generic(1, 1), OK);
            b.specials("0");
            b.due("method", b.x.method(0), 0);
            b.due("a body", b.x.generic(1, 2), SEALED);
            b.due("another one takes its place", b.method(0, "0", "NUM 1"), 0);
            b.due("a body that is replaced", b.x.generic(1, 1), OK);
            b.due("method", b.method(0, "1", "CALL 1 NUM 1"), 1);
            b.yes("remove", b.x.remove(1));
            b.due("a body that is taken away", b.x.generic(1, 2), OK);
        });
        s.test("or g has methods; else OK", b -> {
            b.due("method", b.method(1, "0", "NUM 1"), 0);
            b.due("with methods", b.x.generic(1, 2), SEALED);
            b.due("the same number", b.x.generic(1, 1), SEALED);
            b.value(1, 1, 1, 5);
            b.yes("remove", b.x.remove(0));
            b.due("without", b.x.generic(1, 2), OK);
        });
        s.test("or g has methods; else OK", "the last method", b -> {
            b.fillMethods(0, 23);
            b.due("method", b.method(1, "0", "NUM 1"), 23);
            b.due("generic(1, 2)", b.x.generic(1, 2), SEALED);
        });
    }

    private static void special(Sentences s) {
        s.at("Promise 8");
        s.test("False if there is no such class", b -> {
            b.fillClasses(4);
            for (long c : new long[] {-1, 4, 16, OBJECT, OBJECT + 1, -OBJECT, Long.MIN_VALUE, Long.MAX_VALUE}) {
                b.no("special(false, " + c + ")", b.x.special(false, c));
            }
            b.yes("special(false, 3)", b.x.special(false, 3));
            b.tokens("NUM 1");
            b.due("the one alone is in the draft", b.x.method(0), 0);
        });
        s.test("object or int", "no such object", b -> {
            b.fillObjects(0, 2);
            for (long v : new long[] {OBJECT - 1, OBJECT + 2, OBJECT + 19, OBJECT + 20, 2 * OBJECT}) {
                b.no("special(true, " + v + ")", b.x.special(true, v));
            }
            b.yes("the first object", b.x.special(true, OBJECT));
            b.x.clear();
            b.no("an object that was taken away", b.x.special(true, OBJECT));
        });
        s.test("object or int", "no such int", b -> {
            for (long v : new long[] {GREATEST + 1L, LEAST - 1L, Long.MIN_VALUE, Long.MAX_VALUE}) {
                b.no("special(true, " + v + ")", b.x.special(true, v));
            }
            b.due("the least", b.method(0, "=" + LEAST, "NUM 1"), 0);
            b.due("the greatest", b.method(0, "=" + GREATEST, "NUM 2"), 1);
            b.due("one that is no class's number", b.method(0, "=-1", "NUM 3"), 2);
            b.value(1, 1, 0, LEAST);
            b.value(2, 1, 0, GREATEST);
            b.value(3, 1, 0, -1);
        });
        s.test("or there are 3", b -> {
            b.x.generic(0, 3);
            b.fillObjects(0, 1);
            b.yes("the first", b.x.special(false, 0));
            b.yes("the second", b.x.special(true, 5));
            b.yes("the third", b.x.special(true, OBJECT));
            b.no("a fourth class", b.x.special(false, 1));
            b.no("a fourth value", b.x.special(true, 6));
            b.tokens("NUM 1");
            b.due("the three alone are in the draft", b.x.method(0), 0);
            b.value(1, 1, 0, 9, 5, OBJECT);
            b.fault(NO_METHOD, 0, 0, 9, 5, 6);
        });
        s.test("a class (single false), or a value as a long (single true)", b -> {
            b.due("class 1", b.method(0, "1", "NUM 10"), 0);
            b.due("the int 1", b.method(0, "=1", "NUM 20"), 1);
            b.value(20, 1, 0, 1);
            b.value(10, 1, 0, 0);
        });
    }

    private static void token(Sentences s) {
        s.at("Promise 9");
        s.test("False if kind is outside 0..12", b -> {
            for (int kind : new int[] {-1, 13, LEAST, GREATEST}) {
                b.no("token(" + kind + ", 0)", b.x.token(kind, 0));
            }
            b.specials("0");
            b.yes("token(NUM, 4)", b.x.token(NUM, 4));
            b.due("the one alone is in the draft", b.x.method(0), 0);
            b.yes("token(MAKE, 0)", b.x.token(MAKE, 0));
        });
        int[][] ranges = {{CALL, 4}, {GET, 3}, {SET, 3}, {IS, 5}, {MAKE, 5}, {ARG, 2}};
        String[] words = {"CALL 0..4", "slots 0..3", "slots 0..3", "a class that there is", "a class that there is", "ARG 0..2"};
        for (int i = 0; i < ranges.length; i++) {
            int kind = ranges[i][0];
            int last = ranges[i][1];
            s.test(words[i], "kind " + kind, b -> {
                b.fillClasses(6);
                for (int value : new int[] {-1, last + 1, LEAST, GREATEST}) {
                    b.no("token(" + kind + ", " + value + ")", b.x.token(kind, value));
                }
                b.yes("the first", b.x.token(kind, 0));
                b.yes("the last", b.x.token(kind, last));
            });
        }
        s.test("a class that there is", "1 too, though MAKE of it is a fault", b -> {
            b.yes("token(MAKE, 1)", b.x.token(MAKE, 1));
            b.yes("token(IS, 1)", b.x.token(IS, 1));
        });
        s.test("a value that is looked at", "the value of other kinds is not", b -> {
            for (int kind : new int[] {NUM, NEXT, ADD, SUB, LESS, IF, SEQ}) {
                b.yes("token(" + kind + ", least)", b.x.token(kind, LEAST));
                b.yes("token(" + kind + ", greatest)", b.x.token(kind, GREATEST));
            }
            b.x.method(0);
            b.specials("0");
            b.yes("token(ADD, 99)", b.x.token(ADD, 99));
            b.tokens("NUM 1 NUM 2");
            b.due("method", b.x.method(0), 0);
            b.value(3, 3, 0, 1);
        });
        s.test("or there are 16", b -> {
            b.specials("0");
            for (int i = 0; i < 15; i++) {
                b.yes("token " + i, b.x.token(IS, 1));
            }
            b.yes("the sixteenth", b.x.token(NUM, 1));
            b.no("a seventeenth", b.x.token(NUM, 1));
            b.no("a seventeenth again", b.x.token(NEXT, 0));
            b.due("the sixteen alone are in the draft", b.x.method(0), 0);
            b.yes("there is room in the next draft", b.x.token(NUM, 1));
        });
    }

    private static void method(Sentences s) {
        s.at("Promise 10");
        s.test("which are empty then (but for BAD) whatever the answer", "a number", b -> {
            b.x.generic(0, 3);
            b.due("sixteen tokens, three specialisers", b.method(0, "0 0 0", "IS 0 ".repeat(15) + "NUM 1"), 0);
            b.due("and again", b.method(0, "0 0 1", "IS 0 ".repeat(15) + "NUM 1"), 1);
            b.due("without drafts", b.x.method(1), SYNTAX);
        });
        s.test("which are empty then (but for BAD) whatever the answer", "SYNTAX", b -> {
            b.due("too many specialisers", b.method(0, "0 0 0", "NUM 1"), SYNTAX);
            b.due("an unfinished body", b.method(0, "0", "ADD NUM 1"), SYNTAX);
            b.due("a new draft", b.method(0, "0", "NUM 2"), 0);
            b.value(2, 1, 0, 1);
        });
        s.test("which are empty then (but for BAD) whatever the answer", "FULL", b -> {
            b.fillMethods(0, 24);
            b.due("one more", b.method(0, "1", "NUM 1"), FULL);
            b.yes("remove", b.x.remove(5));
            b.due("a new draft", b.method(0, "0", "NUM 2"), 5);
            b.value(2, 1, 0, 5);
        });
        s.test("which are empty then (but for BAD) whatever the answer", "not with BAD", b -> {
            b.specials("0");
            b.tokens("NUM 6");
            b.due("method(5)", b.x.method(5), BAD);
            b.due("method(-1)", b.x.method(-1), BAD);
            b.due("method(0)", b.x.method(0), 0);
            b.value(6, 1, 0, 1);
        });
        s.test("its number, the least that is free", b -> {
            b.fillMethods(0, 24);
            for (int m : new int[] {23, 0, 12}) {
                b.yes("remove(" + m + ")", b.x.remove(m));
            }
            b.due("the least", b.method(1, "=0", "NUM 1"), 0);
            b.due("the next", b.method(1, "=1", "NUM 1"), 12);
            b.due("the last", b.method(1, "=2", "NUM 1"), 23);
            b.due("none", b.method(1, "=3", "NUM 1"), FULL);
        });
        s.test("if the generic has one with the same specialisers this one takes its place and number", b -> {
            b.x.generic(0, 3);
            b.fillObjects(0, 1);
            b.due("m0", b.method(1, "1", "NUM 0"), 0);
            b.due("m1", b.method(0, "1 =5 @0", "ADD NUM 1 NUM 1"), 1);
            b.yes("a lesser number is free", b.x.remove(0));
            b.due("the same", b.method(0, "1 =5 @0", "NUM 3"), 1);
            b.value(3, 1, 0, 1, 5, OBJECT);
            b.order(Bench.places(1, -1), 0, 1, 5, OBJECT);
        });
        s.test("if the generic has one with the same specialisers this one takes its place and number", "what is not the same",
                b -> {
            b.x.generic(0, 3);
            b.x.generic(1, 3);
            b.due("m0", b.method(0, "0 0 0", "NUM 0"), 0);
            b.due("another last one", b.method(0, "0 0 1", "NUM 0"), 1);
            b.due("another first one", b.method(0, "1 0 0", "NUM 0"), 2);
            b.due("a value with the class's number", b.method(0, "0 0 =0", "NUM 0"), 3);
            b.due("another value", b.method(0, "0 0 =1", "NUM 0"), 4);
            b.due("another order", b.method(0, "0 1 0", "NUM 0"), 5);
            b.due("another generic", b.method(1, "0 0 0", "NUM 0"), 6);
        });
        s.test("BAD if g is outside 0..4", b -> {
            for (int g : new int[] {-1, 5, LEAST, GREATEST}) {
                b.due("method(" + g + ")", b.x.method(g), BAD);
            }
            b.due("method(4)", b.method(4, "0", "NUM 1"), 0);
        });
        String[] bodies = {"", "NUM 1 NUM 2", "ADD NUM 1", "ADD", "IF NUM 1 NUM 2", "CALL 1", "CALL 1 NUM 1 NUM 2", "NEXT NEXT",
            "ADD NUM 1 NUM 2 NUM 3", "SEQ NUM 1", "MAKE 0 MAKE 0", "IS 0", "GET 0", "SET 0 NUM 1", "IS 0 ".repeat(16)};
        for (String body : bodies) {
            s.test("SYNTAX if the body is not one E", "'" + body + "'", b -> {
                b.due("method", b.method(0, "0", body), SYNTAX);
                b.no("none was added", b.x.remove(0));
            });
        }
        s.test("ARG is not below the number of parameters", b -> {
            b.x.generic(0, 2);
            b.due("ARG 2 of two", b.method(0, "0 0", "ARG 2"), SYNTAX);
            b.due("at the end of the longest body", b.method(0, "0 0", "IS 0 ".repeat(15) + "ARG 2"), SYNTAX);
            b.due("where it is never worked out", b.method(0, "0 0", "IF NUM 1 NUM 1 ARG 2"), SYNTAX);
            b.due("ARG 1 of one", b.method(1, "0", "ARG 1"), SYNTAX);
            b.due("ARG 1 of two", b.method(0, "0 0", "ARG 1"), 0);
            b.due("NUM 2 is no ARG", b.method(1, "0", "NUM 2"), 1);
        });
        s.test("or the specialisers are not as many", b -> {
            for (int n = 1; n <= 3; n++) {
                b.x.generic(0, n);
                for (int count = 0; count <= 3; count++) {
                    b.due(count + " for " + n, b.method(0, "0 ".repeat(count), "NUM 1"), count == n ? 0 : SYNTAX);
                }
                b.x.remove(0);
            }
        });
        s.test("FULL if there are 24", b -> {
            b.fillMethods(0, 23);
            b.due("the last", b.method(1, "0", "NUM 1"), 23);
            b.due("one more", b.method(1, "1", "NUM 2"), FULL);
            b.value(1, 1, 1, 5);
            b.no("remove(24)", b.x.remove(24));
        });
    }

    private static void removeAndMake(Sentences s) {
        s.at("Promise 11");
        s.test("Takes method m away", b -> {
            b.method(0, "0", "NUM 1");
            b.method(0, "1", "NEXT");
            b.method(0, "=5", "NEXT");
            b.value(1, 3, 0, 5);
            b.yes("remove(1)", b.x.remove(1));
            b.value(1, 2, 0, 5);
            b.yes("remove(0)", b.x.remove(0));
            b.fault(NO_NEXT, 1, 0, 5);
            b.yes("remove(2)", b.x.remove(2));
            b.fault(NO_METHOD, 0, 0, 5);
        });
        s.test("false if there is none", b -> {
            b.fillMethods(0, 24);
            for (int m : new int[] {-1, 24, LEAST, GREATEST}) {
                b.no("remove(" + m + ")", b.x.remove(m));
            }
            for (int m : new int[] {0, 23}) {
                b.yes("remove(" + m + ")", b.x.remove(m));
                b.no("remove(" + m + ") again", b.x.remove(m));
            }
        });
        s.at("Promise 12");
        s.test("Makes an object of class c: its number.", b -> {
            b.fillClasses(16);
            b.due("of 0", b.x.make(0), 0);
            b.due("of 15", b.x.make(15), 1);
            b.due("classOf the first", b.x.classOf(OBJECT), 0);
            b.due("classOf the second", b.x.classOf(OBJECT + 1), 15);
            b.x.clear();
            b.due("the first again", b.x.make(2), 0);
        });
        s.test("BAD if there is no such class or it is 1", b -> {
            b.fillClasses(3);
            for (int c : new int[] {-1, 3, 15, 16, LEAST, GREATEST}) {
                b.due("make(" + c + ")", b.x.make(c), BAD);
            }
            b.due("make(1)", b.x.make(1), BAD);
            b.due("none was made", b.x.clear(), 0);
        });
        s.test("FULL if there are 20", b -> {
            for (int k = 0; k < 20; k++) {
                b.due("make", b.x.make(0), k);
            }
            b.due("one more", b.x.make(0), FULL);
            b.due("how many", b.x.clear(), 20);
            b.due("room again", b.x.make(0), 0);
        });
    }

    private static void clear(Sentences s) {
        s.at("Promise 13");
        s.test("Takes all objects away", b -> {
            b.slots(0, 5);
            b.due("2", b.define(), 2);
            b.fillObjects(2, 20);
            b.method(0, "0", "SET 0 ARG 0 NUM 9");
            b.value(9, 3, 0, OBJECT);
            b.x.clear();
            b.due("classOf the first", b.x.classOf(OBJECT), -1);
            b.due("classOf the last", b.x.classOf(OBJECT + 19), -1);
            b.due("slot of the first", b.x.get(0, 0), NOTHING);
            b.due("slot of the last", b.x.get(19, 0), NOTHING);
            b.due("call", b.call(0, OBJECT), BAD);
            b.due("the value of the latest call", b.x.result(), 9);
            b.due("a new one", b.x.make(2), 0);
            b.due("its slot", b.x.get(0, 0), 5);
        });
        s.test("all methods that have one of them as a specialiser", b -> {
            b.x.generic(0, 3);
            b.fillObjects(0, 20);
            b.method(0, "@0 0 0", "NUM 0");
            b.method(0, "0 @19 0", "NUM 1");
            b.method(0, "=1 =1 @5", "NUM 2");
            b.method(0, "=0 =19 =5", "NUM 3");
            b.method(0, "0 0 0", "NUM 4");
            b.method(1, "@3", "NUM 5");
            b.method(1, "1", "NUM 6");
            b.x.clear();
            for (int m : new int[] {0, 1, 2, 5}) {
                b.no("method " + m, b.x.remove(m));
            }
            for (int m : new int[] {3, 4, 6}) {
                b.yes("method " + m, b.x.remove(m));
            }
        });
        s.test("all methods that have one of them as a specialiser", "the last method, and objects made by bodies", b -> {
            b.fillMethods(0, 23);
            b.method(0, "=0", "MAKE 0");
            b.value(OBJECT, 1, 0, 0);
            b.due("the last", b.method(0, "@0", "NUM 1"), 23);
            b.due("clear", b.x.clear(), 1);
            b.no("the last is gone", b.x.remove(23));
            b.yes("the one before is not", b.x.remove(22));
        });
        s.test("all methods that have one of them as a specialiser", "what a body makes is no specialiser", b -> {
            b.method(0, "0", "MAKE 0");
            b.value(OBJECT, 1, 0, 1);
            b.x.clear();
            b.value(OBJECT, 1, 0, 1);
        });
        s.test("and the draft of specialisers", b -> {
            b.x.generic(0, 3);
            b.fillObjects(0, 1);
            b.specials("@0 0 =5");
            b.x.clear();
            b.due("three new ones", b.method(0, "1 1 1", "ARG 0"), 0);
            b.specials("0");
            b.due("without objects too", b.x.clear(), 0);
            b.due("three new ones", b.method(0, "0 1 1", "ARG 0"), 1);
        });
        s.test("and the draft of specialisers", "the other drafts stay", b -> {
            b.under(1);
            b.slots(0, 5);
            b.tokens("NUM 7");
            b.x.clear();
            b.specials("0");
            b.due("the body", b.x.method(0), 0);
            b.value(7, 1, 0, 1);
            b.due("the class", b.x.define(), 2);
            b.line(2, 2, 1, 0);
            b.x.make(2);
            b.due("the slot", b.x.get(0, 0), 5);
        });
        s.test("how many objects there were", b -> {
            b.due("none", b.x.clear(), 0);
            b.x.make(0);
            b.due("one", b.x.clear(), 1);
            b.due("none again", b.x.clear(), 0);
            b.fillObjects(0, 20);
            b.due("twenty", b.x.clear(), 20);
        });
    }

    /** Values of no int and of no object where there are so many objects. */
    private static long[] noValues(int objects) {
        return new long[] {GREATEST + 1L, LEAST - 1L, OBJECT - 1, OBJECT + objects, 2 * OBJECT, Long.MIN_VALUE, Long.MAX_VALUE};
    }

    private static void call(Sentences s) {
        s.at("Promise 14");
        s.test("Calls generic g with as many of these arguments as it has parameters.", b -> {
            for (int n = 1; n <= 3; n++) {
                b.x.generic(n, n);
                b.method(n, "1 ".repeat(n), "ARG " + (n - 1));
                b.due("call", b.x.call(n, 10, 20, 30), OK);
                b.due("its last argument", b.x.result(), 10 * n);
            }
        });
        s.test("Calls generic g with as many of these arguments as it has parameters.", "those behind are not looked at", b -> {
            b.x.generic(1, 2);
            b.method(0, "1", "ARG 0");
            b.method(1, "1 1", "ARG 1");
            for (long v : noValues(0)) {
                b.due("call", b.x.call(0, 4, v, v), OK);
                b.due("call", b.x.call(1, 4, 5, v), OK);
            }
        });
        s.test("BAD if g is outside", b -> {
            for (int g : new int[] {-1, 5, LEAST, GREATEST}) {
                b.due("call(" + g + ")", b.x.call(g, 1, 1, 1), BAD);
            }
            b.fault(NO_METHOD, 0, 4, 1);
        });
        for (int place = 0; place < 3; place++) {
            int wrongPlace = place;
            s.test("or one of these is no int and no object that there is", "argument " + place, b -> {
                b.x.generic(0, 3);
                b.fillObjects(0, 2);
                b.method(0, "0 0 0", "ARG " + wrongPlace);
                for (long v : noValues(2)) {
                    long[] all = {1, 1, 1};
                    all[wrongPlace] = v;
                    b.due("call with " + v, b.call(0, all), BAD);
                }
                for (long v : new long[] {LEAST, GREATEST, OBJECT, OBJECT + 1}) {
                    long[] all = {1, 1, 1};
                    all[wrongPlace] = v;
                    b.value(v, 1, 0, all);
                }
            });
        }
        s.test("or one of these is no int and no object that there is", "twenty objects, and none any more", b -> {
            b.fillObjects(0, 20);
            b.method(0, "0", "ARG 0");
            b.value(OBJECT + 19, 1, 0, OBJECT + 19);
            b.due("one more", b.call(0, OBJECT + 20), BAD);
            b.x.clear();
            b.due("the first, taken away", b.call(0, OBJECT), BAD);
        });
        s.test("(then nothing changes)", b -> {
            b.x.generic(1, 2);
            b.slots(0, 5);
            b.due("2", b.define(), 2);
            b.fillObjects(2, 1);
            b.method(1, "0 0", "SEQ SET 0 ARG 0 NUM 6 MAKE 0");
            b.method(0, "0", "ADD NUM 1 NUM 2");
            b.value(3, 3, 0, 1);
            b.due("no generic", b.x.call(5, OBJECT, 1, 0), BAD);
            b.due("no value", b.x.call(1, OBJECT, OBJECT + 1, 0), BAD);
            b.due("result", b.x.result(), 3);
            b.due("steps", b.x.steps(), 3);
            b.due("slot", b.x.get(0, 0), 5);
            b.due("objects", b.x.clear(), 1);
        });
        s.test("else OK or the fault", b -> {
            b.x.generic(1, 2);
            b.method(1, "1 0", "NUM 1");
            b.method(1, "0 1", "NUM 1");
            b.fault(NO_METHOD, 0, 0, 1);
            b.fault(AMBIGUOUS, 0, 1, 1, 1);
            String[] bodies = {"NUM 1", "NEXT", "GET 0 NUM 1", "MAKE 1", "CALL 0 NUM 1",
                "SEQ CALL 2 NUM 1 SEQ CALL 2 NUM 1 SEQ CALL 2 NUM 1 CALL 2 NUM 1"};
            int[] want = {OK, NO_NEXT, NO_SLOT, TYPE, DEEP, LONG};
            b.method(3, "0", "IS 0 ".repeat(13) + "NUM 1");
            b.method(2, "0", "SEQ CALL 3 NUM 1 SEQ CALL 3 NUM 1 CALL 3 NUM 1");
            for (int i = 0; i < bodies.length; i++) {
                b.method(0, "0", bodies[i]);
                b.due(bodies[i], b.call(0, 1), want[i]);
            }
            b.fillObjects(0, 20);
            b.method(0, "0", "MAKE 0");
            b.fault(FULL, 1, 0, 1);
        });
    }

    private static void resultAndSteps(Sentences s) {
        s.at("Promise 15");
        s.test("The value that the latest call gave that was not BAD", b -> {
            b.fillObjects(0, 20);
            b.method(0, "0", "ARG 0");
            for (long v : new long[] {LEAST, GREATEST, OBJECT + 19, 0}) {
                b.due("call", b.call(0, v), OK);
                b.due("result", b.x.result(), v);
                b.due("BAD", b.call(0, OBJECT + 20), BAD);
                b.due("result after BAD", b.x.result(), v);
                b.due("order", b.x.order(0, v, 0, 0, 0), 0);
                b.due("result after order", b.x.result(), v);
            }
        });
        s.test("-9223372036854775808 if it was a fault", b -> {
            b.method(0, "1", "ARG 0");
            b.method(0, "=5", "ADD NUM 1 MAKE 1");
            b.value(4, 1, 0, 4);
            b.due("a fault", b.call(0, 5), TYPE);
            b.due("result", b.x.result(), NOTHING);
            b.value(4, 1, 0, 4);
            b.due("a fault before any step", b.call(1, 5), NO_METHOD);
            b.due("result", b.x.result(), NOTHING);
            b.due("BAD", b.call(5, 5), BAD);
            b.due("result after BAD", b.x.result(), NOTHING);
        });
        s.test("or there was none", b -> {
            b.due("result", b.x.result(), NOTHING);
            b.due("BAD", b.call(5, 1), BAD);
            b.due("result after BAD alone", b.x.result(), NOTHING);
            b.method(0, "0", "NUM 1");
            b.due("order", b.x.order(0, 1, 0, 0, 0), 0);
            b.due("result after order", b.x.result(), NOTHING);
        });
        s.at("Promise 16");
        s.test("How many STEPS it took", b -> {
            b.due("before any call", b.x.steps(), 0);
            b.method(0, "0", "ADD ADD NUM 1 NUM 2 NUM 3");
            b.method(0, "=5", "NEXT");
            b.due("call", b.call(0, 1), OK);
            b.due("steps", b.x.steps(), 5);
            b.due("call", b.call(0, 5), OK);
            b.due("steps with NEXT", b.x.steps(), 6);
            b.due("BAD", b.call(5, 1), BAD);
            b.due("steps after BAD", b.x.steps(), 6);
            b.due("order", b.x.order(0, 1, 0, 0, 0), 0);
            b.due("steps after order", b.x.steps(), 6);
            b.due("a fault before any step", b.call(1, 1), NO_METHOD);
            b.due("steps", b.x.steps(), 0);
        });
        s.test("(120 at LONG)", b -> {
            b.spendAllButFourteen();
            b.method(4, "0", "IS 0 ".repeat(14) + "NUM 5");
            b.due("call", b.call(3, 1), LONG);
            b.due("steps", b.x.steps(), 120);
            b.method(4, "0", "IS 0 ".repeat(13) + "NUM 5");
            b.due("call", b.call(3, 1), OK);
            b.due("all the steps, and yet not LONG", b.x.steps(), 120);
        });
    }

    private static void order(Sentences s) {
        s.at("Promise 17");
        s.test("BROKEN where and behind where it is broken", b -> {
            b.x.generic(0, 2);
            b.method(0, "1 0", "NUM 0");
            b.method(0, "0 1", "NUM 1");
            b.method(0, "0 0", "NUM 2");
            b.method(0, "1 1", "NUM 3");
            b.order(Bench.places(3, BROKEN), 0, 5, 5);
            b.yes("remove", b.x.remove(3));
            b.order(Bench.places(BROKEN), 0, 5, 5);
        });
        s.test("-1 where it is over", b -> {
            b.order(Bench.places(-1), 0, 5);
            b.method(0, "0", "NUM 0");
            b.method(0, "=5", "NUM 1");
            b.order(Bench.places(1, 0, -1), 0, 5);
            b.order(Bench.places(0, -1), 0, 6);
        });
        s.test("Place k of the ORDER", "there is no place below 0", b -> {
            b.x.generic(1, 2);
            b.method(0, "0", "NUM 0");
            b.method(1, "1 0", "NUM 0");
            b.method(1, "0 1", "NUM 1");
            for (int k : new int[] {-1, LEAST}) {
                b.place(k, -1, 0, 5);
                b.place(k, -1, 1, 5, 5);
            }
        });
        s.test("or for what call answers BAD", b -> {
            b.x.generic(1, 3);
            b.fillObjects(0, 1);
            b.method(0, "0", "NUM 0");
            b.method(1, "0 0 0", "NUM 0");
            for (int g : new int[] {-1, 5, LEAST, GREATEST}) {
                b.place(0, -1, g, 1);
            }
            for (long v : noValues(1)) {
                b.place(0, -1, 0, v);
                b.place(0, -1, 1, v, 1, 1);
                b.place(0, -1, 1, 1, v, 1);
                b.place(0, -1, 1, 1, 1, v);
            }
            b.place(0, 0, 0, OBJECT);
            b.place(0, 1, 1, LEAST, GREATEST, OBJECT);
        });
        s.test("or for what call answers BAD", "a BROKEN order too", b -> {
            b.x.generic(0, 2);
            b.method(0, "1 0", "NUM 0");
            b.method(0, "0 1", "NUM 1");
            b.place(0, -1, 0, 1, OBJECT);
            b.place(0, BROKEN, 0, 1, 1);
        });
        s.test("Place k of the ORDER of generic g for these arguments", "arguments behind the parameters are not looked at",
                b -> {
            b.method(0, "0", "NUM 0");
            for (long v : noValues(0)) {
                b.place(0, 0, 0, 1, v, v);
            }
        });
    }

    private static void getAndClassOf(Sentences s) {
        s.at("Promise 18");
        s.test("-9223372036854775808 if there is none", "no such object", b -> {
            b.slots(0, 5, 1, 6, 2, 7, 3, 8);
            b.due("2", b.define(), 2);
            b.fillObjects(2, 3);
            for (int k : new int[] {-1, 3, 19, 20, LEAST, GREATEST}) {
                b.due("get(" + k + ", 0)", b.x.get(k, 0), NOTHING);
            }
            b.due("the last", b.x.get(2, 3), 8);
        });
        s.test("-9223372036854775808 if there is none", "no such slot", b -> {
            b.slots(0, 5, 1, 6, 2, 7, 3, 8);
            b.due("2", b.define(), 2);
            b.fillObjects(2, 3);
            for (int n : new int[] {-1, 4, LEAST, GREATEST}) {
                b.due("get(1, " + n + ")", b.x.get(1, n), NOTHING);
            }
        });
        s.test("-9223372036854775808 if there is none", "a slot that the object has not", b -> {
            b.slots(1, 0);
            b.due("2", b.define(), 2);
            b.fillObjects(2, 1);
            b.due("slot 0", b.x.get(0, 0), NOTHING);
            b.due("slot 1, which is 0", b.x.get(0, 1), 0);
            b.due("slot 2", b.x.get(0, 2), NOTHING);
            b.x.clear();
            b.x.make(0);
            b.due("slot 1 of an object with the same number", b.x.get(0, 1), NOTHING);
        });
        s.test("-9223372036854775808 if there is none", "the twentieth object", b -> {
            b.slots(3, 5);
            b.due("2", b.define(), 2);
            b.fillObjects(2, 20);
            b.due("its last slot", b.x.get(19, 3), 5);
            b.due("one behind it", b.x.get(20, 3), NOTHING);
        });
        s.at("Promise 19");
        s.test("-1 if there is none", b -> {
            for (long v : noValues(0)) {
                b.due("classOf(" + v + ")", b.x.classOf(v), -1);
            }
            b.fillObjects(0, 19);
            b.due("the twentieth object, not made", b.x.classOf(OBJECT + 19), -1);
            b.x.make(0);
            b.due("the twentieth object", b.x.classOf(OBJECT + 19), 0);
            b.due("the twenty-first", b.x.classOf(OBJECT + 20), -1);
            b.x.clear();
            b.due("the first, taken away", b.x.classOf(OBJECT), -1);
        });
        s.test("The class of a value as a long", b -> {
            b.due("below 1", b.define(1), 2);
            b.x.make(2);
            b.due("the least int", b.x.classOf(LEAST), 1);
            b.due("the greatest int", b.x.classOf(GREATEST), 1);
            b.due("an object of a subclass of 1", b.x.classOf(OBJECT), 2);
        });
    }

    private static void orderAndLimits(Sentences s) {
        s.at("Promise 20");
        s.test("define: FULL is tested first", b -> {
            b.fillClasses(16);
            b.yes("seal(2)", b.x.seal(2));
            b.due("before SEALED", b.define(0, 2), FULL);
            b.no("the draft stays", b.x.under(2));
        });
        s.test("define: FULL is tested first", "before BROKEN", b -> {
            b.fillClasses(16);
            b.due("before BROKEN", b.define(0, 2), FULL);
            b.no("the draft stays", b.x.under(2));
        });
        s.test("then SEALED, then BROKEN", b -> {
            b.due("2", b.define(), 2);
            b.yes("seal(2)", b.x.seal(2));
            b.due("below 0 and 2", b.define(0, 2), SEALED);
        });
        s.test("with SEALED and BROKEN the drafts are empty then", "SEALED", b -> {
            b.due("2", b.define(), 2);
            b.yes("seal(2)", b.x.seal(2));
            b.slots(0, 5, 3, 6);
            b.due("define", b.define(1, 2), SEALED);
            b.due("without drafts", b.x.define(), 3);
            b.line(3, 3, 0);
            b.x.make(3);
            b.due("no slot 0", b.x.get(0, 0), NOTHING);
            b.due("no slot 3", b.x.get(0, 3), NOTHING);
        });
        s.test("with SEALED and BROKEN the drafts are empty then", "BROKEN", b -> {
            b.slots(0, 5, 3, 6);
            b.due("define", b.define(0, 1), BROKEN);
            b.due("without drafts", b.x.define(), 2);
            b.line(2, 2, 0);
            b.x.make(2);
            b.due("no slot 0", b.x.get(0, 0), NOTHING);
            b.due("no slot 3", b.x.get(0, 3), NOTHING);
        });
        s.test("with SEALED and BROKEN the drafts are empty then", "the slots of classes stay", b -> {
            b.slots(0, 5, 3, 6);
            b.due("2", b.define(), 2);
            b.due("BROKEN", b.define(0, 2), BROKEN);
            b.yes("seal(2)", b.x.seal(2));
            b.due("SEALED", b.define(2), SEALED);
            b.x.make(2);
            b.due("slot 0", b.x.get(0, 0), 5);
            b.due("slot 3", b.x.get(0, 3), 6);
        });
        s.test("method: BAD is tested first", b -> {
            b.fillMethods(0, 24);
            b.tokens("ADD");
            b.due("before SYNTAX and FULL", b.x.method(5), BAD);
        });
        s.test("then SYNTAX, then FULL", b -> {
            b.fillMethods(0, 24);
            b.due("the body", b.method(1, "0", "ADD"), SYNTAX);
            b.due("ARG", b.method(1, "0", "ARG 1"), SYNTAX);
            b.due("the specialisers", b.method(1, "0 0", "NUM 1"), SYNTAX);
            b.due("none of these", b.method(1, "0", "NUM 1"), FULL);
        });
        s.test("(not where the method takes the place of one with the same specialisers)", b -> {
            b.fillMethods(0, 24);
            b.due("the first", b.method(0, "=0", "NUM 70"), 0);
            b.due("the last", b.method(0, "=23", "NUM 71"), 23);
            b.value(70, 1, 0, 0);
            b.value(71, 1, 0, 23);
            b.due("the same of another generic", b.method(1, "=23", "NUM 1"), FULL);
            b.due("SYNTAX there too", b.method(0, "=23", "ADD"), SYNTAX);
            b.value(71, 1, 0, 23);
        });
        s.test("make: BAD is tested before FULL.", b -> {
            b.fillObjects(0, 20);
            b.due("make(1)", b.x.make(1), BAD);
            b.due("make(2)", b.x.make(2), BAD);
            b.due("make(-1)", b.x.make(-1), BAD);
            b.due("make(0)", b.x.make(0), FULL);
        });
    }

    public static void main(String[] args) {
        Sentences s = new Sentences();
        newObject(s);
        under(s);
        slot(s);
        define(s);
        sealAndLine(s);
        generic(s);
        special(s);
        token(s);
        method(s);
        removeAndMake(s);
        clear(s);
        call(s);
        resultAndSteps(s);
        order(s);
        getAndClassOf(s);
        orderAndLimits(s);
        s.end();
    }
}
