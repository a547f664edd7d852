/** A test for each boundary case that the document's terms name. */
public final class TermsBoundaryTest {
    private static final int OK = MultiDispatch.OK, NO_METHOD = MultiDispatch.NO_METHOD;
    private static final int AMBIGUOUS = MultiDispatch.AMBIGUOUS, NO_NEXT = MultiDispatch.NO_NEXT;
    private static final int NO_SLOT = MultiDispatch.NO_SLOT, TYPE = MultiDispatch.TYPE, DEEP = MultiDispatch.DEEP;
    private static final int LONG = MultiDispatch.LONG, FULL = MultiDispatch.FULL, BAD = MultiDispatch.BAD;
    private static final int BROKEN = MultiDispatch.BROKEN, SYNTAX = MultiDispatch.SYNTAX;
    private static final int NUM = 0, ARG = 1, IS = 11, MAKE = 12;
    private static final long NOTHING = Bench.NOTHING, OBJECT = Bench.OBJECT;
    private static final int LEAST = Bench.LEAST, GREATEST = Bench.GREATEST;

    private static void use(Sentences s) {
        s.at("What it is");
        s.test("An object is used for at most 512 calls after it has been made", "the 512th is as promised", b -> {
            b.method(0, "0", "ADD ARG 0 NUM 1");
            for (int v = 0; v < 253; v++) {
                b.due("call " + (6 + 2 * v), b.call(0, v), OK);
                b.due("call " + (7 + 2 * v), b.x.result(), v + 1);
            }
            b.due("call 512", b.x.steps(), 3);
        });
    }

    private static void classes(Sentences s) {
        s.at("Terms");
        s.test("CLASSES 0..15", "15 is used as every class is", b -> {
            b.fillClasses(15);
            b.due("the sixteenth", b.define(2), 15);
            b.line(15, 15, 2, 0);
            b.yes("under(15)", b.x.under(15));
            b.yes("special(false, 15)", b.x.special(false, 15));
            b.yes("token(IS, 15)", b.x.token(IS, 15));
            b.yes("token(MAKE, 15)", b.x.token(MAKE, 15));
            b.due("method", b.x.method(0), 0);
            b.due("make(15)", b.x.make(15), 0);
            b.value(1, 2, 0, OBJECT);
            b.due("the object that the body made", b.x.classOf(OBJECT + 1), 15);
            b.yes("seal(15)", b.x.seal(15));
        });
        s.test("CLASSES 0..15", "there is no 16", b -> {
            b.fillClasses(16);
            b.due("define", b.x.define(), FULL);
            b.due("line(16, 0)", b.x.line(16, 0), -1);
            b.no("under(16)", b.x.under(16));
            b.no("special(false, 16)", b.x.special(false, 16));
            b.no("token(IS, 16)", b.x.token(IS, 16));
            b.no("token(MAKE, 16)", b.x.token(MAKE, 16));
            b.due("make(16)", b.x.make(16), BAD);
            b.no("seal(16)", b.x.seal(16));
        });
        s.test("0 is OBJECT, 1 is INTEGER, whose only superclass is 0", b -> {
            b.line(1, 1, 0);
            b.due("classOf an int", b.x.classOf(0), 1);
        });
        s.test("one to three different DIRECT superclasses in an order", b -> {
            b.fillClasses(5);
            b.due("below one", b.define(2), 5);
            b.line(5, 5, 2, 0);
            b.due("below three", b.define(2, 3, 4), 6);
            b.line(6, 6, 2, 3, 4, 0);
            b.due("in another order", b.define(4, 2, 3), 7);
            b.line(7, 7, 4, 2, 3, 0);
            b.under(2, 3, 4);
            b.no("a fourth", b.x.under(5));
            b.due("the three alone", b.x.define(), 8);
            b.line(8, 8, 2, 3, 4, 0);
        });
    }

    private static void lines(Sentences s) {
        s.at("Terms");
        s.test("LINE(0) is 0", b -> b.line(0, 0));
        s.test("otherwise c, followed by the MERGE of the LINES of its direct superclasses, in their order", b -> {
            b.fillClasses(4);
            b.due("below 2 and 3", b.define(2, 3), 4);
            b.line(4, 4, 2, 3, 0);
            b.due("below 3 and 2", b.define(3, 2), 5);
            b.line(5, 5, 3, 2, 0);
        });
        s.test("and then the list of these superclasses itself", b -> {
            b.fillClasses(4);
            b.due("below 2", b.define(2), 4);
            b.due("below 4, 3 and 2", b.define(4, 3, 2), 5);
            b.line(5, 5, 4, 3, 2, 0);
            b.due("a superclass before its own subclass", b.define(2, 4), BROKEN);
        });
        s.test("again and again, of the lists that are left the first whose first class stands in no list behind its first"
                + " place", b -> {
            b.fillClasses(5);
            b.due("below 2 and 3", b.define(2, 3), 5);
            b.due("below 2 and 4", b.define(2, 4), 6);
            b.due("2 waits for 6, then the first list goes on", b.define(5, 6), 7);
            b.line(7, 7, 5, 6, 2, 3, 4, 0);
        });
        s.test("and is taken off all lists that begin with it", b -> {
            b.fillClasses(4);
            b.due("below 2", b.define(2), 4);
            b.due("2 begins the second and the third list", b.define(4, 2), 5);
            b.line(5, 5, 4, 2, 0);
            b.due("0 ends all four lists", b.define(4, 3, 0), 6);
            b.line(6, 6, 4, 2, 3, 0);
        });
        s.test("until all lists are empty", "a line of all sixteen classes", b -> {
            b.chain(1, 14);
            b.due("the sixteenth", b.define(14), 15);
            b.line(15, 15, 14, 13, 12, 11, 10, 9, 8, 7, 6, 5, 4, 3, 2, 1, 0);
        });
        s.test("until all lists are empty", "sixteen classes from three lists", b -> {
            b.chain(0, 5);
            b.due("6", b.define(), 6);
            for (int c = 7; c <= 9; c++) {
                b.due("" + c, b.define(c - 1), c);
            }
            b.due("10", b.define(1), 10);
            for (int c = 11; c <= 14; c++) {
                b.due("" + c, b.define(c - 1), c);
            }
            b.due("15", b.define(5, 9, 14), 15);
            b.line(15, 15, 5, 4, 3, 2, 9, 8, 7, 6, 14, 13, 12, 11, 10, 1, 0);
        });
        s.test("If there is no such list, there is no MERGE.", "at the first class", b -> {
            b.due("2", b.define(), 2);
            b.due("below 0 and 2", b.define(0, 2), BROKEN);
            b.due("line(3, 0)", b.x.line(3, 0), -1);
        });
        s.test("If there is no such list, there is no MERGE.", "behind some classes", b -> {
            b.fillClasses(4);
            b.due("below 2 and 3", b.define(2, 3), 4);
            b.due("below 3 and 2", b.define(3, 2), 5);
            b.due("below 4 and 5", b.define(4, 5), BROKEN);
            b.due("line(6, 0)", b.x.line(6, 0), -1);
        });
        s.test("c IS a class s if s is in LINE(c).", b -> {
            b.chain(0, 4);
            b.due("a class aside", b.define(), 5);
            b.fillObjects(3, 1);
            int[] is = {1, 0, 1, 1, 0, 0};
            for (int c = 0; c < is.length; c++) {
                b.method(0, "0", "IS " + c + " ARG 0");
                b.value(is[c], 2, 0, OBJECT);
            }
        });
    }

    private static void slots(Sentences s) {
        s.at("Terms");
        s.test("SLOTS 0..3: a class may have initial numbers for slots", "all four", b -> {
            b.slots(3, 13, 0, 10, 2, LEAST, 1, GREATEST);
            b.due("define", b.x.define(), 2);
            b.fillObjects(2, 1);
            b.due("slot 0", b.x.get(0, 0), 10);
            b.due("slot 1", b.x.get(0, 1), GREATEST);
            b.due("slot 2", b.x.get(0, 2), LEAST);
            b.due("slot 3", b.x.get(0, 3), 13);
            b.due("no slot 4", b.x.get(0, 4), NOTHING);
            b.due("no slot -1", b.x.get(0, -1), NOTHING);
        });
        s.test("an instance of c has those slots for which a class in LINE(c) has one", b -> {
            b.slots(0, 5);
            b.due("2", b.define(), 2);
            b.due("3 without slots", b.define(2), 3);
            b.slots(1, 6);
            b.due("4 with one more", b.define(3), 4);
            b.slots(3, 7);
            b.due("5 aside", b.define(), 5);
            b.x.make(3);
            b.x.make(0);
            b.due("that of a superclass", b.x.get(0, 0), 5);
            b.due("none of a subclass", b.x.get(0, 1), NOTHING);
            b.due("none that no class has", b.x.get(0, 2), NOTHING);
            b.due("none of a class aside", b.x.get(0, 3), NOTHING);
            b.due("class 0 has none", b.x.get(1, 0), NOTHING);
        });
        s.test("at first with that of the first such class", b -> {
            b.slots(0, 1, 1, 2, 2, 3);
            b.due("2", b.define(), 2);
            b.slots(0, 0, 1, 5);
            b.due("3", b.define(2), 3);
            b.slots(1, 7);
            b.due("4", b.define(2), 4);
            b.slots(3, 9);
            b.due("5", b.define(4, 3), 5);
            b.line(5, 5, 4, 3, 2, 0);
            b.fillObjects(5, 1);
            b.due("of 3, though it is 0", b.x.get(0, 0), 0);
            b.due("of 4, before 3 and 2", b.x.get(0, 1), 7);
            b.due("of 2, the last that has slots", b.x.get(0, 2), 3);
            b.due("of 5 itself", b.x.get(0, 3), 9);
        });
    }

    private static void values(Sentences s) {
        s.at("Terms");
        s.test("VALUES are ints, which are instances of class 1", b -> {
            b.due("the least", b.x.classOf(LEAST), 1);
            b.due("the greatest", b.x.classOf(GREATEST), 1);
            b.due("below the least", b.x.classOf(LEAST - 1L), -1);
            b.due("above the greatest", b.x.classOf(GREATEST + 1L), -1);
        });
        s.test("OBJECTS 0..19, each an instance of another class", "20 objects", b -> {
            for (int k = 0; k < 20; k++) {
                b.due("make", b.x.make(0), k);
            }
            b.due("make", b.x.make(0), FULL);
            b.due("the first", b.x.classOf(OBJECT), 0);
            b.due("the last", b.x.classOf(OBJECT + 19), 0);
            b.due("none behind it", b.x.classOf(OBJECT + 20), -1);
        });
        s.test("OBJECTS 0..19, each an instance of another class", "one of a subclass of 1 is no int", b -> {
            b.due("below 1", b.define(1), 2);
            b.due("make(2)", b.x.make(2), 0);
            b.due("classOf", b.x.classOf(OBJECT), 2);
            b.method(0, "1", "ADD ARG 0 NUM 1");
            b.fault(TYPE, 3, 0, OBJECT);
            b.value(1, 3, 0, 0);
        });
        s.test("As a long: an int is itself, object k is 4294967296 + k.", b -> {
            b.fillObjects(0, 20);
            b.method(0, "0", "ARG 0");
            for (long v : new long[] {LEAST, -1, 0, GREATEST, OBJECT, OBJECT + 19}) {
                b.value(v, 1, 0, v);
            }
            b.due("between ints and objects", b.call(0, OBJECT - 1), BAD);
            b.due("behind the objects", b.call(0, OBJECT + 20), BAD);
        });
    }

    private static void methods(Sentences s) {
        s.at("Terms");
        s.test("GENERICS 0..4 have 1 to 3 parameters.", b -> {
            for (int g = 0; g < 5; g++) {
                for (int n = 3; n > 0; n--) {
                    b.due("generic(" + g + ", " + n + ")", b.x.generic(g, n), OK);
                }
            }
            b.due("no generic 5", b.x.generic(5, 1), BAD);
            b.due("no generic -1", b.x.generic(-1, 1), BAD);
            b.x.generic(4, 3);
            b.due("a method of three", b.method(4, "0 0 0", "ARG 2"), 0);
            b.value(8, 1, 4, 6, 7, 8);
            b.due("a method of one", b.method(0, "0", "ARG 0"), 1);
            b.value(6, 1, 0, 6);
        });
        s.test("METHODS 0..23, each of a generic", b -> {
            b.fillMethods(0, 12);
            for (int v = 12; v < 24; v++) {
                b.due("of generic 4", b.method(4, "=" + v, "NUM " + v), v);
            }
            b.due("one more", b.method(3, "0", "NUM 1"), FULL);
            b.value(11, 1, 0, 11);
            b.value(23, 1, 4, 23);
            b.fault(NO_METHOD, 0, 0, 23);
            b.yes("remove(23)", b.x.remove(23));
            b.no("remove(24)", b.x.remove(24));
        });
        s.test("A specialiser FITS a value if it is that value", b -> {
            b.fillObjects(0, 2);
            b.method(0, "=0", "NUM 100");
            b.method(0, "@0", "NUM 200");
            b.method(0, "=" + LEAST, "NUM 300");
            b.value(100, 1, 0, 0);
            b.value(200, 1, 0, OBJECT);
            b.value(300, 1, 0, LEAST);
            b.fault(NO_METHOD, 0, 0, 1);
            b.fault(NO_METHOD, 0, 0, -1);
            b.fault(NO_METHOD, 0, 0, OBJECT + 1);
        });
        s.test("or a class that the value's class IS", b -> {
            b.due("2", b.define(1), 2);
            b.due("3", b.define(2), 3);
            b.fillObjects(2, 1);
            b.x.make(0);
            int[][] fits = {{1, 1, 1}, {1, 1, 0}, {0, 1, 0}, {0, 0, 0}};
            for (int c = 0; c < 4; c++) {
                b.method(c, "" + c, "NUM 1");
                b.due("an int, class " + c, b.call(c, 0), fits[c][0] == 1 ? OK : NO_METHOD);
                b.due("one of class 2, class " + c, b.call(c, OBJECT), fits[c][1] == 1 ? OK : NO_METHOD);
                b.due("one of class 0, class " + c, b.call(c, OBJECT + 1), fits[c][2] == 1 ? OK : NO_METHOD);
            }
        });
        s.test("A method is APPLICABLE to arguments if all its specialisers fit.", b -> {
            b.x.generic(0, 3);
            b.method(0, "=1 =2 =3", "NUM 9");
            b.value(9, 1, 0, 1, 2, 3);
            b.fault(NO_METHOD, 0, 0, 0, 2, 3);
            b.fault(NO_METHOD, 0, 0, 1, 0, 3);
            b.fault(NO_METHOD, 0, 0, 1, 2, 0);
        });
        s.test("the value itself before classes", b -> {
            b.due("2", b.define(), 2);
            b.fillObjects(2, 1);
            b.due("class 2", b.method(0, "2", "NUM 1"), 0);
            b.due("object 0", b.method(0, "@0", "NUM 2"), 1);
            b.due("class 1", b.method(0, "1", "NUM 3"), 2);
            b.due("the int 0", b.method(0, "=0", "NUM 4"), 3);
            b.order(Bench.places(1, 0, -1), 0, OBJECT);
            b.order(Bench.places(3, 2, -1), 0, 0);
        });
        s.test("classes as they come in the LINE of the value's class", b -> {
            b.fillClasses(4);
            b.due("4", b.define(2, 3), 4);
            b.due("5", b.define(3, 2), 5);
            b.x.make(4);
            b.x.make(5);
            for (int c = 0; c < 6; c++) {
                b.due("class " + c, b.method(0, "" + c, "NUM " + c), c);
            }
            b.order(Bench.places(4, 2, 3, 0, -1), 0, OBJECT);
            b.order(Bench.places(5, 3, 2, 0, -1), 0, OBJECT + 1);
            b.order(Bench.places(1, 0, -1), 0, 7);
        });
    }

    private static void orders(Sentences s) {
        s.at("Terms");
        s.test("if for every argument its specialiser is nearer or the same, and not the same for all", b -> {
            b.x.generic(0, 3);
            b.due("m0", b.method(0, "0 0 0", "NUM 0"), 0);
            b.due("m1, nearer at the last alone", b.method(0, "0 0 1", "NUM 1"), 1);
            b.due("m2, nearer at the first too", b.method(0, "1 0 1", "NUM 2"), 2);
            b.order(Bench.places(2, 1, 0, -1), 0, 5, 5, 5);
            b.due("m3, nearer at the second, farther at the last", b.method(0, "1 1 0", "NUM 3"), 3);
            b.order(Bench.places(BROKEN), 0, 5, 5, 5);
        });
        s.test("if for every argument its specialiser is nearer or the same, and not the same for all", "no argument more", b -> {
            b.x.generic(0, 3);
            b.due("m0", b.method(0, "0 0 0", "NUM 0"), 0);
            b.due("m1", b.method(0, "=5 0 0", "NUM 1"), 1);
            b.due("m2", b.method(0, "1 0 0", "NUM 2"), 2);
            b.order(Bench.places(1, 2, 0, -1), 0, 5, 5, 5);
        });
        s.test("if for every argument its specialiser is nearer or the same, and not the same for all",
                "numbers that methods with more parameters had", b -> {
            b.x.generic(0, 3);
            b.due("m0", b.method(0, "0 1 1", "NUM 0"), 0);
            b.due("m1", b.method(0, "1 0 0", "NUM 1"), 1);
            b.order(Bench.places(BROKEN), 0, 5, 5, 5);
            b.x.remove(0);
            b.x.remove(1);
            b.due("m0", b.method(1, "0", "NUM 0"), 0);
            b.due("m1", b.method(1, "1", "NUM 1"), 1);
            b.order(Bench.places(1, 0, -1), 1, 5);
        });
        s.test("the method that precedes all other applicable ones, then that which precedes all others that are left",
                b -> {
            b.x.generic(0, 2);
            b.due("m0", b.method(0, "0 1", "NUM 0"), 0);
            b.due("m1", b.method(0, "=3 =4", "NUM 1"), 1);
            b.due("m2", b.method(0, "0 0", "NUM 2"), 2);
            b.due("m3", b.method(0, "1 =4", "NUM 3"), 3);
            b.due("m4, not applicable", b.method(0, "=4 =3", "NUM 4"), 4);
            b.order(Bench.places(1, 3, 0, 2, -1), 0, 3, 4);
        });
        s.test("where none does (and more than one are left) it is BROKEN", "at the beginning", b -> {
            b.x.generic(0, 2);
            b.method(0, "1 0", "NUM 0");
            b.method(0, "0 1", "NUM 1");
            b.due("behind both, and yet not in the order", b.method(0, "0 0", "NUM 2"), 2);
            b.order(Bench.places(BROKEN), 0, 5, 5);
        });
        s.test("where none does (and more than one are left) it is BROKEN", "at the last two", b -> {
            b.x.generic(0, 2);
            b.method(0, "1 0", "NUM 0");
            b.method(0, "0 1", "NUM 1");
            b.method(0, "1 1", "NUM 2");
            b.method(0, "=5 1", "NUM 3");
            b.order(Bench.places(3, 2, BROKEN), 0, 5, 5);
            b.order(Bench.places(2, BROKEN), 0, 6, 6);
        });
        s.test("where none does (and more than one are left) it is BROKEN", "one or none left is not broken", b -> {
            b.order(Bench.places(-1), 0, 5);
            b.method(0, "0", "NUM 0");
            b.order(Bench.places(0, -1), 0, 5);
        });
        s.test("METHODS 0..23", "an order of all that can be: the longest line and the value", b -> {
            b.chain(1, 15);
            b.fillObjects(15, 1);
            for (int c = 0; c < 16; c++) {
                b.due("class " + c, b.method(0, "" + c, "NUM 0"), c);
            }
            b.due("the object", b.method(0, "@0", "NUM 0"), 16);
            b.order(Bench.places(16, 15, 14, 13, 12, 11, 10, 9, 8, 7, 6, 5, 4, 3, 2, 1, 0, -1), 0, OBJECT);
        });
        s.test("METHODS 0..23", "an order of all twenty-four", b -> {
            b.chain(1, 15);
            b.fillObjects(15, 1);
            b.x.generic(0, 2);
            for (int c = 0; c < 16; c++) {
                b.due("class " + c, b.method(0, c + " 0", "NUM 0"), c);
            }
            for (int c = 1; c < 9; c++) {
                b.due("15 and class " + c, b.method(0, "15 " + c, "NUM 0"), 15 + c);
            }
            b.place(0, 23, 0, OBJECT, OBJECT);
            b.place(8, 15, 0, OBJECT, OBJECT);
            b.place(22, 1, 0, OBJECT, OBJECT);
            b.place(23, 0, 0, OBJECT, OBJECT);
            b.place(24, -1, 0, OBJECT, OBJECT);
            b.place(25, -1, 0, OBJECT, OBJECT);
        });
    }

    private static void bodies(Sentences s) {
        s.at("Terms");
        s.test("BODY, as tokens in prefix notation (kind and value), at most 16", b -> {
            b.specials("0");
            b.tokens("IS 1 ".repeat(15) + "ARG 0");
            b.no("a seventeenth", b.x.token(NUM, 0));
            b.due("the sixteen", b.x.method(0), 0);
            b.value(1, 16, 0, 4);
        });
        s.test("0 NUM (any int)", b -> {
            for (int v : new int[] {LEAST, -1, 0, GREATEST}) {
                b.method(0, "0", "NUM " + v);
                b.value(v, 1, 0, 5);
            }
        });
        s.test("1 ARG (0..2, below the number of parameters)", b -> {
            b.no("ARG 3", b.x.token(ARG, 3));
            b.no("ARG -1", b.x.token(ARG, -1));
            for (int n = 1; n <= 3; n++) {
                b.x.generic(n, n);
                for (int i = 0; i < 3; i++) {
                    int m = b.method(n, "0 ".repeat(n), "ARG " + i);
                    b.due("ARG " + i + " of " + n, m, i < n ? n - 1 : SYNTAX);
                }
                b.value(n * 10, 1, n, 10, n > 1 ? 20 : 0, n > 2 ? 30 : 0);
            }
        });
        s.test("3 CALL (a generic), then as many E as it has parameters", b -> {
            for (int n = 1; n <= 3; n++) {
                b.x.generic(n, n);
                b.method(n, "0 ".repeat(n), "ARG " + (n - 1));
                b.due("too few", b.method(0, "0", "CALL " + n + " NUM 7".repeat(n - 1)), SYNTAX);
                b.due("too many", b.method(0, "0", "CALL " + n + " NUM 7".repeat(n + 1)), SYNTAX);
                b.method(0, "0", "CALL " + n + " NUM 7".repeat(n - 1) + " NUM 8");
                b.value(8, n + 2, 0, 5);
            }
        });
        String[] kinds = {"NUM 0", "ARG 0", "NEXT", "", "GET 0", "SET 0", "ADD", "SUB", "LESS", "IF", "SEQ", "IS 0", "MAKE 0"};
        String[] words = {"0 NUM (any int)", "1 ARG (0..2", "2 NEXT", "", "4 GET (a slot) E", "5 SET (a slot) E E", "6 ADD E E",
            "7 SUB E E", "8 LESS E E", "9 IF E E E", "10 SEQ E E", "11 IS (a class) E", "12 MAKE (a class)"};
        int[] operands = {0, 0, 0, 1, 1, 2, 2, 2, 2, 3, 2, 1, 0};
        for (int kind = 0; kind < 13; kind++) {
            if (kind != 3) {
                String token = kinds[kind];
                int count = operands[kind];
                s.test(words[kind], "no more and no less E", b -> {
                    if (count > 0) {
                        b.due("one E less", b.method(0, "0", token + " NUM 1".repeat(count - 1)), SYNTAX);
                    }
                    b.due("one E more", b.method(0, "0", token + " NUM 1".repeat(count + 1)), SYNTAX);
                    b.due("as many", b.method(0, "0", token + " NUM 1".repeat(count)), 0);
                });
            }
        }
    }

    private static void calls(Sentences s) {
        s.at("Terms");
        s.test("NO_METHOD if no method is applicable", b -> {
            b.fault(NO_METHOD, 0, 0, 1);
            b.method(0, "=2", "NUM 1");
            b.method(1, "0", "CALL 0 ARG 0");
            b.fault(NO_METHOD, 0, 0, 1);
            b.fault(NO_METHOD, 2, 1, 1);
        });
        s.test("AMBIGUOUS if the ORDER is broken at its beginning", b -> {
            b.x.generic(0, 2);
            b.method(0, "1 0", "NUM 1");
            b.method(0, "0 1", "NUM 2");
            b.method(1, "0", "CALL 0 ARG 0 ARG 0");
            b.fault(AMBIGUOUS, 0, 0, 1, 1);
            b.fault(AMBIGUOUS, 3, 1, 1);
            b.method(0, "1 1", "NUM 3");
            b.value(3, 1, 0, 1, 1);
        });
        s.test("else DEEP if 8 calls are at work", "the eighth is worked out, the ninth is not", b -> {
            b.method(0, "1", "CALL 0 SUB ARG 0 NUM 1");
            b.method(0, "=0", "NUM 77");
            b.value(77, 7 * 4 + 1, 0, 7);
            b.fault(DEEP, 8 * 4, 0, 8);
            b.value(77, 7 * 4 + 1, 0, 7);
        });
        s.test("else DEEP if 8 calls are at work", "calls that are over are not at work", b -> {
            b.method(1, "0", "NUM 1");
            b.method(2, "0", "ADD CALL 1 NUM 0 ADD CALL 1 NUM 0 ADD CALL 1 NUM 0 ADD CALL 1 NUM 0 CALL 1 NUM 0");
            b.method(3, "0", "ADD CALL 2 NUM 0 CALL 2 NUM 0");
            b.value(10, 5 + 2 * 19, 3, 0);
        });
        s.test("else DEEP if 8 calls are at work", "a call whose arguments are worked out is not yet at work", b -> {
            b.method(0, "1", "CALL 0 SUB ARG 0 NUM 1");
            b.method(0, "=0", "CALL 1 CALL 1 CALL 1 NUM 5");
            b.method(1, "0", "ARG 0");
            b.value(5, 6 * 4 + 4 + 3, 0, 6);
            b.fault(DEEP, 7 * 4 + 4, 0, 7);
        });
        s.test("NO_METHOD if no method is applicable, AMBIGUOUS if the ORDER is broken at its beginning, else DEEP", b -> {
            b.x.generic(1, 2);
            b.method(0, "1", "CALL 0 SUB ARG 0 NUM 1");
            b.method(0, "=0", "CALL 1 NUM 5 NUM 5");
            b.fault(NO_METHOD, 7 * 4 + 3, 0, 7);
            b.method(1, "1 0", "NUM 1");
            b.fault(DEEP, 7 * 4 + 3, 0, 7);
            b.method(1, "0 1", "NUM 1");
            b.fault(AMBIGUOUS, 7 * 4 + 3, 0, 7);
        });
        s.test("else the body of the first method is worked out with the arguments: its value is the call's", b -> {
            b.x.generic(1, 3);
            b.method(1, "0 0 0", "SUB ARG 2 SUB ARG 1 ARG 0");
            b.method(1, "0 0 1", "ADD ARG 2 ARG 1");
            b.method(0, "0", "ADD CALL 1 NUM 1 ARG 0 NUM 100 NUM 1000");
            b.value(120, 3, 1, 1, 20, 100);
            b.value(1120, 6 + 3, 0, 20);
        });
    }

    private static void nexts(Sentences s) {
        s.at("Terms");
        s.test("NEXT: the same with the next method in the ORDER as it was when the generic was called", b -> {
            b.method(0, "0", "NUM 1");
            b.method(0, "1", "ADD NEXT NUM 10");
            b.method(0, "=5", "ADD CALL 0 NUM 6 ADD NEXT NUM 100");
            b.value(11, 4, 0, 6);
            b.value(11 + 11 + 100, 6 + 4 + 4, 0, 5);
        });
        s.test("A call of a generic", "a CALL behind a NEXT begins at the first method again", b -> {
            b.method(0, "0", "NUM 1");
            b.method(0, "1", "ADD NEXT NUM 10");
            b.method(0, "=5", "ADD NEXT CALL 0 NUM 6");
            b.value(11 + 11, 4 + 4 + 4, 0, 5);
        });
        s.test("and the same arguments", b -> {
            b.x.generic(0, 2);
            b.method(0, "0 0", "SUB ARG 0 ARG 1");
            b.method(0, "1 0", "SEQ CALL 1 NUM 50 NEXT");
            b.method(1, "0", "ARG 0");
            b.value(7, 4 + 1 + 3, 0, 9, 2);
        });
        s.test("NO_NEXT if there is none", "behind the only one", b -> {
            b.method(0, "0", "NEXT");
            b.fault(NO_NEXT, 1, 0, 1);
        });
        s.test("NO_NEXT if there is none", "behind the last of three", b -> {
            b.method(0, "0", "NEXT");
            b.method(0, "1", "NEXT");
            b.method(0, "=1", "NEXT");
            b.fault(NO_NEXT, 3, 0, 1);
            b.fault(NO_NEXT, 2, 0, 2);
        });
        s.test("AMBIGUOUS if it is broken there", b -> {
            b.x.generic(0, 2);
            b.method(0, "1 0", "NUM 1");
            b.method(0, "0 1", "NUM 2");
            b.method(0, "1 1", "NEXT");
            b.method(0, "=5 1", "NEXT");
            b.method(0, "=6 1", "NUM 6");
            b.fault(AMBIGUOUS, 1, 0, 1, 1);
            b.fault(AMBIGUOUS, 2, 0, 5, 1);
            b.value(6, 1, 0, 6, 1);
        });
        s.test("else DEEP; else its body's value", "a NEXT is a call at work", b -> {
            b.chain(0, 8);
            b.fillObjects(8, 1);
            b.method(0, "0", "NUM 77");
            for (int c = 2; c <= 8; c++) {
                b.method(0, "" + c, "NEXT");
            }
            b.value(77, 8, 0, OBJECT);
            b.method(0, "@0", "NEXT");
            b.fault(DEEP, 8, 0, OBJECT);
        });
        s.test("else DEEP; else its body's value", "NO_NEXT and AMBIGUOUS come before DEEP", b -> {
            b.x.generic(1, 2);
            b.method(0, "1", "CALL 0 SUB ARG 0 NUM 1");
            b.method(0, "=0", "CALL 1 NUM 5 NUM 5");
            b.method(1, "1 1", "NEXT");
            b.fault(NO_NEXT, 6 * 4 + 3 + 1, 0, 6);
            b.method(1, "1 0", "NUM 1");
            b.fault(DEEP, 6 * 4 + 3 + 1, 0, 6);
            b.method(1, "0 1", "NUM 1");
            b.fault(AMBIGUOUS, 6 * 4 + 3 + 1, 0, 6);
        });
        s.test("(in it NEXT goes on from there)", b -> {
            b.method(0, "0", "NUM 1");
            b.method(0, "1", "ADD NEXT NEXT");
            b.method(0, "=5", "ADD NEXT NEXT");
            b.value(4, 3 + 2 * (3 + 2), 0, 5);
        });
    }

    private static void operators(Sentences s) {
        s.at("Terms");
        s.test("E's are worked out from left to right", "what they make and set", b -> {
            b.slots(0, 0);
            b.due("2", b.define(), 2);
            b.due("3", b.define(), 3);
            b.x.generic(1, 3);
            b.method(1, "0 0 0", "ARG 1");
            b.method(0, "0", "CALL 1 MAKE 0 MAKE 2 MAKE 3");
            b.value(OBJECT + 1, 5, 0, 1);
            b.due("the first", b.x.classOf(OBJECT), 0);
            b.due("the second", b.x.classOf(OBJECT + 1), 2);
            b.due("the third", b.x.classOf(OBJECT + 2), 3);
            b.method(0, "0", "SUB SET 0 ARG 0 NUM 5 GET 0 ARG 0");
            b.value(0, 6, 0, OBJECT + 1);
        });
        s.test("E's are worked out from left to right", "the first fault is the call's", b -> {
            b.method(0, "0", "ADD MAKE 1 NEXT");
            b.fault(TYPE, 2, 0, 1);
            b.method(0, "0", "ADD NEXT MAKE 1");
            b.fault(NO_NEXT, 2, 0, 1);
        });
        s.test("IF: the first; if it is not the int 0 the second, else the third", b -> {
            b.fillObjects(0, 1);
            b.method(0, "0", "IF ARG 0 NUM 10 NUM 20");
            b.value(20, 3, 0, 0);
            for (long v : new long[] {1, -1, LEAST, GREATEST, OBJECT}) {
                b.value(10, 3, 0, v);
            }
        });
        s.test("IF: the first; if it is not the int 0 the second, else the third", "the other one is not worked out", b -> {
            b.method(0, "0", "ADD IF ARG 0 IS 0 MAKE 0 SUB NEXT NEXT NUM 5");
            b.value(6, 6, 0, 1);
            b.due("made", b.x.clear(), 1);
            b.method(0, "0", "ADD IF ARG 0 SUB NEXT NEXT IS 0 MAKE 0 NUM 5");
            b.value(6, 6, 0, 0);
            b.due("made", b.x.clear(), 1);
        });
        s.test("SEQ: the second's value.", b -> {
            b.method(0, "0", "SEQ MAKE 0 SEQ NUM 1 NUM 2");
            b.value(2, 5, 0, 1);
            b.due("the first is worked out", b.x.clear(), 1);
            b.method(0, "0", "SEQ NUM 1 MAKE 0");
            b.value(OBJECT, 3, 0, 1);
        });
        s.test("ADD, SUB (wrapping)", b -> {
            b.x.generic(0, 2);
            b.x.generic(1, 2);
            b.method(0, "0 0", "ADD ARG 0 ARG 1");
            b.method(1, "0 0", "SUB ARG 0 ARG 1");
            b.value(LEAST, 3, 0, GREATEST, 1);
            b.value(GREATEST, 3, 0, LEAST, -1);
            b.value(-2, 3, 0, GREATEST, GREATEST);
            b.value(0, 3, 0, LEAST, LEAST);
            b.value(GREATEST, 3, 1, LEAST, 1);
            b.value(LEAST, 3, 1, GREATEST, -1);
            b.value(LEAST, 3, 1, 0, LEAST);
            b.value(-1, 3, 1, GREATEST, LEAST);
        });
        s.test("LESS (1 or 0)", b -> {
            b.x.generic(0, 2);
            b.method(0, "0 0", "LESS ARG 0 ARG 1");
            b.value(1, 3, 0, 4, 5);
            b.value(0, 3, 0, 5, 5);
            b.value(0, 3, 0, 5, 4);
            b.value(1, 3, 0, LEAST, GREATEST);
            b.value(0, 3, 0, GREATEST, LEAST);
        });
        for (String kind : new String[] {"ADD", "SUB", "LESS"}) {
            s.test("of two ints, else TYPE", kind, b -> {
                b.x.generic(0, 2);
                b.due("below 1", b.define(1), 2);
                b.x.make(0);
                b.x.make(2);
                b.method(0, "0 0", kind + " ARG 0 ARG 1");
                b.fault(TYPE, 3, 0, OBJECT, 1);
                b.fault(TYPE, 3, 0, 1, OBJECT);
                b.fault(TYPE, 3, 0, OBJECT + 1, OBJECT + 1);
                b.due("two ints", b.call(0, 1, 1), OK);
                b.method(0, "0 0", kind + " ARG 0 NEXT");
                b.fault(NO_NEXT, 3, 0, OBJECT, 1);
            });
        }
        s.test("IS: 1 or 0.", b -> {
            b.due("2", b.define(), 2);
            b.x.make(2);
            b.x.make(0);
            b.method(0, "0", "IS 2 ARG 0");
            b.value(1, 2, 0, OBJECT);
            b.value(0, 2, 0, OBJECT + 1);
            b.value(0, 2, 0, 2);
        });
    }

    private static void objectsInBodies(Sentences s) {
        s.at("Terms");
        s.test("GET: the slot's value", b -> {
            b.slots(0, 5, 3, -6);
            b.due("2", b.define(), 2);
            b.fillObjects(2, 1);
            b.method(0, "0", "GET 0 ARG 0");
            b.method(1, "0", "GET 3 ARG 0");
            b.value(5, 2, 0, OBJECT);
            b.value(-6, 2, 1, OBJECT);
        });
        s.test("SET: gives an object's slot the second E's value, which is the value too", b -> {
            b.slots(0, 5, 3, -6);
            b.due("2", b.define(), 2);
            b.fillObjects(2, 2);
            b.x.generic(0, 2);
            b.method(0, "0 0", "SET 3 ARG 0 ARG 1");
            b.value(LEAST, 3, 0, OBJECT, LEAST);
            b.due("slot 3", b.x.get(0, 3), LEAST);
            b.value(OBJECT + 1, 3, 0, OBJECT, OBJECT + 1);
            b.due("slot 3", b.x.get(0, 3), OBJECT + 1);
            b.due("slot 0", b.x.get(0, 0), 5);
            b.due("slot 3 of the other", b.x.get(1, 3), -6);
        });
        s.test("NO_SLOT if it is not an object that has the slot", "GET", b -> {
            b.slots(1, 5);
            b.due("2", b.define(), 2);
            b.x.make(2);
            b.x.make(0);
            b.method(0, "0", "GET 1 ARG 0");
            b.fault(NO_SLOT, 2, 0, 0);
            b.fault(NO_SLOT, 2, 0, OBJECT + 1);
            b.value(5, 2, 0, OBJECT);
            b.method(0, "0", "GET 2 ARG 0");
            b.fault(NO_SLOT, 2, 0, OBJECT);
        });
        s.test("NO_SLOT if it is not an object that has the slot", "SET", b -> {
            b.slots(1, 5);
            b.due("2", b.define(), 2);
            b.x.make(2);
            b.x.make(0);
            b.method(0, "0", "SET 1 ARG 0 NUM 6");
            b.fault(NO_SLOT, 3, 0, 0);
            b.fault(NO_SLOT, 3, 0, OBJECT + 1);
            b.method(0, "0", "SET 2 ARG 0 NUM 6");
            b.fault(NO_SLOT, 3, 0, OBJECT);
            b.due("slot 1", b.x.get(0, 1), 5);
            b.due("slot 1 of the other", b.x.get(1, 1), NOTHING);
            b.due("slot 2", b.x.get(0, 2), NOTHING);
        });
        s.test("(SET: when both are worked out)", b -> {
            b.method(0, "0", "SET 0 ARG 0 MAKE 0");
            b.fault(NO_SLOT, 3, 0, 1);
            b.due("the second was worked out", b.x.clear(), 1);
            b.method(0, "0", "SET 0 ARG 0 MAKE 1");
            b.fault(TYPE, 3, 0, 1);
        });
        s.test("MAKE: a new object", b -> {
            b.slots(2, 9);
            b.due("2", b.define(), 2);
            b.fillObjects(0, 1);
            b.method(0, "0", "MAKE 2");
            b.value(OBJECT + 1, 1, 0, 1);
            b.value(OBJECT + 2, 1, 0, 1);
            b.due("its class", b.x.classOf(OBJECT + 2), 2);
            b.due("its slot", b.x.get(2, 2), 9);
            b.due("how many", b.x.clear(), 3);
        });
        s.test("TYPE if the class is 1", b -> {
            b.due("below 1", b.define(1), 2);
            b.method(0, "0", "MAKE 1");
            b.fault(TYPE, 1, 0, 1);
            b.due("none was made", b.x.clear(), 0);
            b.method(0, "0", "MAKE 2");
            b.value(OBJECT, 1, 0, 1);
        });
        s.test("FULL if there are 20", b -> {
            b.fillObjects(0, 19);
            b.method(0, "0", "MAKE 0");
            b.value(OBJECT + 19, 1, 0, 1);
            b.fault(FULL, 1, 0, 1);
            b.due("how many", b.x.clear(), 20);
            b.value(OBJECT, 1, 0, 1);
        });
        s.test("TYPE if the class is 1, FULL if there are 20", "class 1 when there are 20", b -> {
            b.fillObjects(0, 20);
            b.method(0, "0", "MAKE 1");
            b.fault(TYPE, 1, 0, 1);
        });
    }

    private static void steps(Sentences s) {
        s.at("Terms");
        s.test("Each token that is worked out takes one of 120 STEPS", "the last of them is enough", b -> {
            b.spendAllButFourteen();
            b.method(4, "0", "IS 0 ".repeat(12) + "NUM 5");
            b.value(1, 119, 3, 1);
            b.method(4, "0", "IS 0 ".repeat(13) + "NUM 5");
            b.value(1, 120, 3, 1);
        });
        s.test("Each token that is worked out takes one of 120 STEPS", "one that is left out takes none", b -> {
            b.spendAllButFourteen();
            b.method(4, "0", "IF ARG 0 " + "IS 0 ".repeat(11) + "NUM 5 NUM 6");
            b.value(1, 120, 3, 1);
            b.value(6, 109, 3, 0);
        });
        String[] last = {"NUM 5", "ARG 0", "NEXT", "MAKE 1", "MAKE 0", "CALL 0 NUM 1", "GET 0 NUM 1"};
        for (String token : last) {
            s.test("LONG if there is none left (before anything else)", token, b -> {
                b.spendAllButFourteen();
                b.method(4, "0", "IS 0 ".repeat(14) + token);
                b.fault(LONG, 120, 3, 1);
                b.due("nothing was made", b.x.clear(), 0);
            });
        }
        s.test("LONG if there is none left (before anything else)", "a CALL's argument, before NO_METHOD", b -> {
            b.spendAllButFourteen();
            b.method(4, "0", "IS 0 ".repeat(13) + "CALL 0 NUM 1");
            b.fault(LONG, 120, 3, 1);
            b.method(4, "0", "IS 0 ".repeat(12) + "CALL 0 NUM 1");
            b.fault(NO_METHOD, 120, 3, 1);
        });
        s.test("LONG if there is none left (before anything else)", "the first token of a body that is called", b -> {
            b.spendAllButFourteen();
            b.method(0, "0", "MAKE 1");
            b.method(4, "0", "IS 0 ".repeat(12) + "CALL 0 NUM 1");
            b.fault(LONG, 120, 3, 1);
            b.method(4, "0", "IS 0 ".repeat(11) + "CALL 0 NUM 1");
            b.fault(TYPE, 120, 3, 1);
        });
        s.test("LONG if there is none left (before anything else)", "a fault at the last step is not LONG", b -> {
            b.spendAllButFourteen();
            b.method(4, "0", "IS 0 ".repeat(13) + "NEXT");
            b.fault(NO_NEXT, 120, 3, 1);
            b.method(4, "0", "IS 0 ".repeat(13) + "MAKE 1");
            b.fault(TYPE, 120, 3, 1);
        });
        s.test("LONG if there is none left (before anything else)", "DEEP takes no step", b -> {
            b.spendAllButFourteen();
            b.method(4, "0", "CALL 4 ARG 0");
            b.fault(DEEP, 120, 3, 1);
            b.method(4, "=1", "SEQ NUM 0 CALL 4 NUM 2");
            b.fault(LONG, 120, 3, 1);
        });
        s.test("A fault ends the call from outside; what was done before stays.", b -> {
            b.slots(0, 5);
            b.due("2", b.define(), 2);
            b.fillObjects(2, 1);
            b.method(2, "0", "SEQ SET 0 ARG 0 MAKE 0 SEQ MAKE 1 SET 0 ARG 0 NUM 9");
            b.method(1, "0", "SEQ CALL 2 ARG 0 SET 0 ARG 0 NUM 8");
            b.method(0, "0", "SEQ CALL 1 ARG 0 SET 0 ARG 0 NUM 7");
            b.fault(TYPE, 3 + 3 + 6, 0, OBJECT);
            b.due("the slot that was set", b.x.get(0, 0), OBJECT + 1);
            b.due("the object that was made", b.x.classOf(OBJECT + 1), 0);
            b.due("no more", b.x.classOf(OBJECT + 2), -1);
        });
        s.test("A fault ends the call from outside; what was done before stays.", "the next call begins anew", b -> {
            b.method(0, "1", "ADD NUM 1 CALL 0 SUB ARG 0 NUM 1");
            b.method(0, "=0", "NUM 0");
            for (int i = 0; i < 20; i++) {
                b.fault(DEEP, 8 * 6, 0, 8);
                b.value(7, 7 * 6 + 1, 0, 7);
            }
        });
    }

    public static void main(String[] args) {
        Sentences s = new Sentences();
        use(s);
        classes(s);
        lines(s);
        slots(s);
        values(s);
        methods(s);
        orders(s);
        bodies(s);
        calls(s);
        nexts(s);
        operators(s);
        objectsInBodies(s);
        steps(s);
        s.end();
    }
}
