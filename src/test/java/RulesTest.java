import java.lang.reflect.Constructor;
import java.lang.reflect.Field;
import java.lang.reflect.Method;
import java.lang.reflect.Modifier;
import java.nio.file.Files;
import java.nio.file.Path;
import java.util.Arrays;
import java.util.HashSet;
import java.util.LinkedHashMap;
import java.util.List;
import java.util.Map;
import java.util.Random;
import java.util.Set;
import java.util.TreeSet;
import java.util.regex.Matcher;
import java.util.regex.Pattern;

/** The public face, and the rules of LANGUAGE.md that can be read off the class or its source (-Dsource=...). */
public final class RulesTest {
    private static final Set<String> FACE = Set.of(
            "boolean under(int)", "boolean slot(int, int)", "int define()", "boolean seal(int)", "int line(int, int)",
            "int generic(int, int)", "boolean special(boolean, long)", "boolean token(int, int)", "int method(int)",
            "boolean remove(int)", "int make(int)", "int clear()", "int call(int, long, long, long)", "long result()",
            "int steps()", "int order(int, long, long, long, int)", "long get(int, int)", "int classOf(long)");
    private static final Set<String> CONSTANTS = Set.of("OK=0", "NO_METHOD=1", "AMBIGUOUS=2", "NO_NEXT=3", "NO_SLOT=4",
            "TYPE=5", "DEEP=6", "LONG=7", "FULL=8", "BAD=-1", "BROKEN=-2", "SEALED=-3", "SYNTAX=-4");
    private static final Set<Class<?>> NUMBERS =
            Set.of(int.class, long.class, short.class, byte.class, char.class, boolean.class);
    private static final List<String> FORBIDDEN = List.of("import", "package", "String", "Object", "Math", "Integer",
            "Long", "System", "Arrays", "float", "double", "null", "throw", "throws", "try", "catch", "finally",
            "synchronized", "assert", "instanceof", "interface", "enum", "record", "var", "this", "super", "volatile",
            "native", "protected");
    private static final Set<String> WORDS = Set.of("if", "for", "while", "switch", "return", "catch");
    private static final Pattern HEAD =
            Pattern.compile("^    (?:public|private)(?: static)?(?: [a-z]+(?:\\[\\])?)? (\\w+)\\(.*\\) \\{$");
    private static final Pattern CALL = Pattern.compile("(\\w+)\\(");

    private static int wrong = 0;

    private static void rule(boolean holds, String what) {
        if (!holds) {
            wrong++;
            System.out.println("broken: " + what);
        }
    }

    private static void face() throws IllegalAccessException {
        Class<?> type = MultiDispatch.class;
        rule(Modifier.isPublic(type.getModifiers()) && Modifier.isFinal(type.getModifiers()), "public final class");
        rule(type.getDeclaredClasses().length == 0, "no nested class");
        Constructor<?>[] constructors = type.getDeclaredConstructors();
        rule(constructors.length == 1 && constructors[0].getParameterCount() == 0
                && Modifier.isPublic(constructors[0].getModifiers()), "one public constructor without parameters");
        Set<String> methods = new HashSet<>();
        Set<String> publicNames = new HashSet<>();
        for (Method m : type.getDeclaredMethods()) {
            if (!Modifier.isPrivate(m.getModifiers())) {
                String parameters = Arrays.toString(m.getParameterTypes());
                methods.add(m.getReturnType() + " " + m.getName() + "(" + parameters.substring(1, parameters.length() - 1) + ")");
                publicNames.add(m.getName());
            }
            rule(m.getParameterCount() <= 7, m.getName() + " has at most seven parameters");
        }
        rule(methods.equals(FACE), "the public methods are " + methods);
        for (Method m : type.getDeclaredMethods()) {
            rule(!Modifier.isPrivate(m.getModifiers()) || !publicNames.contains(m.getName()), m.getName() + " is private and public");
        }
        fields(type);
    }

    private static void fields(Class<?> type) throws IllegalAccessException {
        Set<String> constants = new HashSet<>();
        int count = 0;
        for (Field f : type.getDeclaredFields()) {
            Class<?> of = f.getType();
            if (!Modifier.isPrivate(f.getModifiers())) {
                constants.add(f.getName() + "=" + f.get(null));
            }
            if (Modifier.isStatic(f.getModifiers())) {
                rule(Modifier.isFinal(f.getModifiers()) && (of == int.class || of == long.class), f.getName() + " is a constant");
            } else {
                count++;
                rule(NUMBERS.contains(of) || of.isArray() && NUMBERS.contains(of.getComponentType()), f.getName() + " is of a type of rule 2");
                rule(!of.isArray() || Modifier.isFinal(f.getModifiers()), f.getName() + " is an array that is made once");
            }
        }
        rule(constants.equals(CONSTANTS), "the public constants are " + constants);
        rule(count <= 40, "at most forty fields, not " + count);
    }

    private static String withoutComments(String source) {
        return source.replaceAll("(?s)/\\*.*?\\*/", "").replaceAll("//[^\n]*", "");
    }

    private static void words(String source) {
        for (String word : FORBIDDEN) {
            rule(!Pattern.compile("\\b" + word + "\\b").matcher(source).find(), "the word " + word + " is not used");
        }
        rule(!source.contains("->") && !source.contains("::"), "no lambda and no method reference");
        rule(!source.contains("\"") && !source.contains("@"), "no text and no annotation");
        for (String text : source.split("\n")) {
            rule(!text.contains("new ") || text.matches("    private final \\w+\\[\\] \\w+ = new \\w+\\[[A-Z_]+\\];"),
                    "an array is made in a field's initialiser with a constant length: " + text.trim());
        }
    }

    /** Each method's name with the text of its body. */
    private static Map<String, String> bodies(String source) {
        Map<String, String> bodies = new LinkedHashMap<>();
        String name = null;
        StringBuilder body = new StringBuilder();
        for (String text : source.split("\n")) {
            Matcher head = HEAD.matcher(text);
            if (head.matches()) {
                name = head.group(1);
                body.setLength(0);
            } else if (text.equals("    }") && name != null) {
                rule(bodies.put(name, body.toString()) == null, name + " is one method");
                rule(body.toString().lines().count() <= 60, name + " has at most sixty lines");
                name = null;
            } else {
                body.append(text).append('\n');
            }
        }
        return bodies;
    }

    private static Set<String> calls(String body) {
        Set<String> calls = new TreeSet<>();
        Matcher call = CALL.matcher(body);
        while (call.find()) {
            if (!WORDS.contains(call.group(1))) {
                calls.add(call.group(1));
                rule(!holdsCall(body, call.end()), "no call inside the arguments of " + call.group(1));
            }
        }
        return calls;
    }

    private static boolean holdsCall(String body, int from) {
        int open = 1;
        int end = from;
        while (open > 0) {
            char letter = body.charAt(end);
            open += letter == '(' ? 1 : letter == ')' ? -1 : 0;
            end++;
        }
        return CALL.matcher(body.substring(from, end)).find();
    }

    private static void callGraph(String source) {
        Map<String, String> bodies = bodies(source);
        Map<String, Set<String>> graph = new LinkedHashMap<>();
        bodies.forEach((name, body) -> graph.put(name, calls(body)));
        rule(graph.size() >= FACE.size(), "the methods were found: " + graph.keySet());
        Set<String> level = new TreeSet<>(graph.keySet());
        int depth = 0;
        while (!level.isEmpty() && depth < 20) {
            depth++;
            Set<String> below = new TreeSet<>();
            for (String name : level) {
                rule(graph.containsKey(name), name + " is a method of the class");
                below.addAll(graph.getOrDefault(name, Set.of()));
            }
            level = below;
        }
        rule(depth <= 6, "calls go at most six deep and there is no recursion, not " + depth);
    }

    private static void loops(String source) {
        for (String text : source.split("\n")) {
            rule(!text.matches(".*\\b(while|do)\\b.*"), "loops count: " + text.trim());
            rule(!text.matches(".*\\bfor\\b.*") || text.matches(".*for \\([^;]*; \\w+ <=? [^;]+; \\w+\\+\\+\\) \\{"),
                    "a counter goes up to a bound: " + text.trim());
        }
    }

    /** A number of any size, often one at an edge. */
    private static long wild(Random random) {
        long[] edges = {0, 1, 1L << 31, 1L << 32, 1L << 33, Long.MIN_VALUE, Long.MAX_VALUE};
        return switch (random.nextInt(4)) {
            case 0 -> edges[random.nextInt(edges.length)] + random.nextInt(5) - 2;
            case 1 -> random.nextLong();
            case 2 -> (1L << 32) + random.nextInt(24);
            default -> random.nextInt(26) - 1;
        };
    }

    private static long ask(MultiDispatch x, int which, long a, long b) {
        int m = (int) a;
        int n = (int) b;
        return switch (which) {
            case 0 -> x.under(m) ? 1 : 0;
            case 1 -> x.slot(m, n) ? 1 : 0;
            case 2 -> x.define();
            case 3 -> x.seal(m) ? 1 : 0;
            case 4 -> x.line(m, n);
            case 5 -> x.generic(m, n);
            case 6 -> x.special(n % 2 == 0, a) ? 1 : 0;
            case 7 -> x.method(m);
            case 8 -> x.remove(m) ? 1 : 0;
            case 9 -> x.make(m);
            case 10 -> n % 16 == 0 ? x.clear() : x.make(m);
            case 11 -> x.order(m, b, a, b, n);
            case 12 -> x.get(m, n);
            case 13 -> x.classOf(a);
            case 14 -> x.call(m, b, a, b);
            case 15 -> x.result();
            case 16 -> x.steps();
            default -> x.token(m, n) ? 1 : 0;
        };
    }

    /** Rules 7 and 11: whatever is asked, also behind the 512th call, nothing throws and equals get equal answers. */
    private static void wildCalls() {
        for (int seed = 1; seed <= 60; seed++) {
            Random random = new Random(seed);
            MultiDispatch x = new MultiDispatch();
            MultiDispatch same = new MultiDispatch();
            for (int i = 0; i < 20000; i++) {
                int which = random.nextInt(24);
                long a = wild(random);
                long b = wild(random);
                try {
                    if (ask(x, which, a, b) != ask(same, which, a, b)) {
                        rule(false, "the same calls give the same answers");
                        return;
                    }
                } catch (RuntimeException | StackOverflowError e) {
                    rule(false, "no call throws, but number " + which + " with " + a + ", " + b + ": " + e);
                    return;
                }
            }
        }
    }

    public static void main(String[] args) throws Exception {
        face();
        String source = withoutComments(Files.readString(Path.of(System.getProperty("source"))));
        words(source);
        loops(source);
        callGraph(source);
        wildCalls();
        System.out.println(wrong == 0 ? "the rules hold" : wrong + " rules are broken");
        System.exit(wrong == 0 ? 0 : 1);
    }
}
