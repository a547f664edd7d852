import java.util.ArrayList;
import java.util.List;
import java.util.Random;

/** Made-up runs of calls, each answer compared with that of a plain model that follows the document's terms. */
public final class ModelTest {
    private static final int RUNS = 6000;
    // An object is used for at most 512 calls; drafting a method takes fewer than 32, and is not begun without them.
    private static final int CALLS = 512 - 32;
    private static final long NOTHING = Long.MIN_VALUE;
    private static final long OBJECT = 1L << 32;

    private record Special(boolean single, long value) { }

    private record Token(int kind, int value) { }

    private record Method(int generic, List<Special> specials, List<Token> body) { }

    private record Slot(int number, int initial) { }

    private static final class Instance {
        final int kind;
        final Long[] slots = new Long[4];

        Instance(int kind) {
            this.kind = kind;
        }
    }

    private static final class Fault extends RuntimeException {
        private static final long serialVersionUID = 1L;
        final int code;

        Fault(int code) {
            super(null, null, false, false);
            this.code = code;
        }
    }

    /** The document again, with lists, recursion and exceptions. */
    private static final class Model {
        final List<List<Integer>> lines = new ArrayList<>(List.of(List.of(0), List.of(1, 0)));
        final List<List<Slot>> slots = new ArrayList<>(List.of(List.of(), List.of()));
        final List<Integer> sealed = new ArrayList<>();
        final List<Instance> objects = new ArrayList<>();
        final int[] parameters = {1, 1, 1, 1, 1};
        final Method[] methods = new Method[24];
        List<Integer> superDraft = new ArrayList<>();
        List<Slot> slotDraft = new ArrayList<>();
        List<Special> specialDraft = new ArrayList<>();
        List<Token> bodyDraft = new ArrayList<>();
        long result = NOTHING;
        int steps = 0;
        int position = 0;

        boolean under(int c) {
            if (c < 0 || c >= lines.size() || superDraft.contains(c) || superDraft.size() >= 3) {
                return false;
            }
            return superDraft.add(c);
        }

        boolean slot(int n, int initial) {
            if (n < 0 || n > 3 || slotDraft.stream().anyMatch(s -> s.number == n)) {
                return false;
            }
            return slotDraft.add(new Slot(n, initial));
        }

        int define() {
            if (lines.size() == 16) {
                return 8;
            }
            List<Integer> supers = superDraft.isEmpty() ? List.of(0) : superDraft;
            List<Slot> own = slotDraft;
            superDraft = new ArrayList<>();
            slotDraft = new ArrayList<>();
            if (supers.stream().anyMatch(sealed::contains)) {
                return -3;
            }
            List<List<Integer>> lists = new ArrayList<>();
            for (int c : supers) {
                lists.add(new ArrayList<>(lines.get(c)));
            }
            lists.add(new ArrayList<>(supers));
            List<Integer> line = merge(lists);
            if (line == null) {
                return -2;
            }
            line.add(0, lines.size());
            lines.add(line);
            slots.add(own);
            return lines.size() - 1;
        }

        static List<Integer> merge(List<List<Integer>> lists) {
            List<Integer> merged = new ArrayList<>();
            lists.removeIf(List::isEmpty);
            while (!lists.isEmpty()) {
                Integer next = null;
                for (List<Integer> list : lists) {
                    Integer first = list.get(0);
                    if (lists.stream().noneMatch(l -> l.lastIndexOf(first) > 0)) {
                        next = first;
                        break;
                    }
                }
                if (next == null) {
                    return null;
                }
                merged.add(next);
                for (List<Integer> list : lists) {
                    if (list.get(0).equals(next)) {
                        list.remove(0);
                    }
                }
                lists.removeIf(List::isEmpty);
            }
            return merged;
        }

        boolean seal(int c) {
            if (c < 0 || c >= lines.size() || sealed.contains(c)) {
                return false;
            }
            return sealed.add(c);
        }

        int line(int c, int k) {
            if (c < 0 || c >= lines.size() || k < 0 || k >= lines.get(c).size()) {
                return -1;
            }
            return lines.get(c).get(k);
        }

        int generic(int g, int n) {
            if (g < 0 || g > 4 || n < 1 || n > 3) {
                return -1;
            }
            for (Method m : methods) {
                if (m != null && (m.generic == g || m.body.contains(new Token(3, g)))) {
                    return -3;
                }
            }
            parameters[g] = n;
            return 0;
        }

        boolean special(boolean single, long v) {
            boolean known = single ? classOf(v) >= 0 : v >= 0 && v < lines.size();
            return known && specialDraft.size() < 3 && specialDraft.add(new Special(single, v));
        }

        boolean token(int kind, int value) {
            boolean sound = switch (kind) {
                case 0, 2, 6, 7, 8, 9, 10 -> true;
                case 1 -> value >= 0 && value <= 2;
                case 3 -> value >= 0 && value <= 4;
                case 4, 5 -> value >= 0 && value <= 3;
                case 11, 12 -> value >= 0 && value < lines.size();
                default -> false;
            };
            return sound && bodyDraft.size() < 16 && bodyDraft.add(new Token(kind, value));
        }

        /** The place behind the E at a place, or -1000 if there is none. */
        int behind(List<Token> body, int from) {
            if (from < 0 || from >= body.size()) {
                return -1000;
            }
            Token t = body.get(from);
            int count = switch (t.kind) {
                case 3 -> parameters[t.value];
                case 4, 11 -> 1;
                case 5, 6, 7, 8, 10 -> 2;
                case 9 -> 3;
                default -> 0;
            };
            int place = from + 1;
            for (int i = 0; i < count; i++) {
                place = behind(body, place);
            }
            return place;
        }

        int method(int g) {
            if (g < 0 || g > 4) {
                return -1;
            }
            Method made = new Method(g, specialDraft, bodyDraft);
            specialDraft = new ArrayList<>();
            bodyDraft = new ArrayList<>();
            if (behind(made.body, 0) != made.body.size() || made.specials.size() != parameters[g]
                    || made.body.stream().anyMatch(t -> t.kind == 1 && t.value >= parameters[g])) {
                return -4;
            }
            int place = -1;
            for (int m = 23; m >= 0; m--) {
                if (methods[m] == null) {
                    place = m;
                }
            }
            for (int m = 0; m < 24; m++) {
                if (methods[m] != null && methods[m].generic == g && methods[m].specials.equals(made.specials)) {
                    place = m;
                }
            }
            if (place < 0) {
                return 8;
            }
            methods[place] = made;
            return place;
        }

        boolean remove(int m) {
            if (m < 0 || m > 23 || methods[m] == null) {
                return false;
            }
            methods[m] = null;
            return true;
        }

        int make(int c) {
            if (c < 0 || c >= lines.size() || c == 1) {
                return -1;
            }
            return objects.size() == 20 ? 8 : add(c);
        }

        int add(int c) {
            Instance made = new Instance(c);
            for (int s : lines.get(c)) {
                for (Slot slot : slots.get(s)) {
                    if (made.slots[slot.number] == null) {
                        made.slots[slot.number] = (long) slot.initial;
                    }
                }
            }
            objects.add(made);
            return objects.size() - 1;
        }

        int clear() {
            for (int m = 0; m < 24; m++) {
                if (methods[m] != null && methods[m].specials.stream().anyMatch(s -> s.single && s.value >= OBJECT)) {
                    methods[m] = null;
                }
            }
            specialDraft = new ArrayList<>();
            int count = objects.size();
            objects.clear();
            return count;
        }

        List<Long> arguments(int g, long... all) {
            if (g < 0 || g > 4) {
                return null;
            }
            List<Long> taken = new ArrayList<>();
            for (int i = 0; i < parameters[g]; i++) {
                if (classOf(all[i]) < 0) {
                    return null;
                }
                taken.add(all[i]);
            }
            return taken;
        }

        int call(int g, long a, long b, long c) {
            List<Long> arguments = arguments(g, a, b, c);
            if (arguments == null) {
                return -1;
            }
            steps = 0;
            result = NOTHING;
            try {
                result = enter(orderOf(g, arguments), 0, arguments, 0);
                return 0;
            } catch (Fault fault) {
                return fault.code;
            }
        }

        long enter(List<Integer> order, int place, List<Long> arguments, int atWork) {
            if (place >= order.size()) {
                throw new Fault(place == 0 ? 1 : 3);
            }
            if (order.get(place) == -2) {
                throw new Fault(2);
            }
            if (atWork == 8) {
                throw new Fault(6);
            }
            int outer = position;
            position = 0;
            long value = work(methods[order.get(place)].body, order, place, arguments, atWork + 1);
            position = outer;
            return value;
        }

        long work(List<Token> body, List<Integer> order, int place, List<Long> arguments, int atWork) {
            if (steps == 120) {
                throw new Fault(7);
            }
            steps++;
            Token t = body.get(position);
            position++;
            switch (t.kind) {
                case 0:
                    return t.value;
                case 1:
                    return arguments.get(t.value);
                case 2:
                    return enter(order, place + 1, arguments, atWork);
                case 9:
                    if (work(body, order, place, arguments, atWork) != 0) {
                        long value = work(body, order, place, arguments, atWork);
                        position = behind(body, position);
                        return value;
                    }
                    position = behind(body, position);
                    return work(body, order, place, arguments, atWork);
                case 12:
                    if (t.value == 1 || objects.size() == 20) {
                        throw new Fault(t.value == 1 ? 5 : 8);
                    }
                    return OBJECT + add(t.value);
                default:
                    int end = behind(body, position - 1);
                    List<Long> values = new ArrayList<>();
                    while (position < end) {
                        values.add(work(body, order, place, arguments, atWork));
                    }
                    return apply(t, values, atWork);
            }
        }

        long apply(Token t, List<Long> values, int atWork) {
            switch (t.kind) {
                case 3:
                    return enter(orderOf(t.value, values), 0, values, atWork);
                case 4:
                    return slotsOf(values.get(0), t.value)[t.value];
                case 5:
                    slotsOf(values.get(0), t.value)[t.value] = values.get(1);
                    return values.get(1);
                case 10:
                    return values.get(1);
                case 11:
                    return lines.get(classOf(values.get(0))).contains(t.value) ? 1 : 0;
                default:
                    if (values.get(0) >= OBJECT || values.get(1) >= OBJECT) {
                        throw new Fault(5);
                    }
                    long a = values.get(0);
                    long b = values.get(1);
                    return t.kind == 6 ? (int) (a + b) : t.kind == 7 ? (int) (a - b) : a < b ? 1 : 0;
            }
        }

        Long[] slotsOf(long v, int n) {
            if (v < OBJECT || objects.get((int) (v - OBJECT)).slots[n] == null) {
                throw new Fault(4);
            }
            return objects.get((int) (v - OBJECT)).slots;
        }

        boolean fits(Special s, long v) {
            return s.single ? s.value == v : lines.get(classOf(v)).contains((int) s.value);
        }

        boolean nearer(Special s, Special t, long v) {
            List<Integer> line = lines.get(classOf(v));
            return s.single && !t.single
                    || !s.single && !t.single && line.indexOf((int) s.value) < line.indexOf((int) t.value);
        }

        boolean precedes(Method m, Method other, List<Long> arguments) {
            for (int i = 0; i < arguments.size(); i++) {
                Special s = m.specials.get(i);
                Special t = other.specials.get(i);
                if (!s.equals(t) && !nearer(s, t, arguments.get(i))) {
                    return false;
                }
            }
            return !m.specials.equals(other.specials);
        }

        /** The methods in their order, and -2 at the end if it is broken there. */
        List<Integer> orderOf(int g, List<Long> arguments) {
            List<Integer> left = new ArrayList<>();
            for (int m = 0; m < 24; m++) {
                boolean applicable = methods[m] != null && methods[m].generic == g;
                for (int i = 0; applicable && i < arguments.size(); i++) {
                    applicable = fits(methods[m].specials.get(i), arguments.get(i));
                }
                if (applicable) {
                    left.add(m);
                }
            }
            List<Integer> order = new ArrayList<>();
            while (!left.isEmpty()) {
                Integer first = null;
                for (Integer m : left) {
                    if (left.stream().allMatch(o -> o.equals(m) || precedes(methods[m], methods[o], arguments))) {
                        first = m;
                    }
                }
                if (first == null) {
                    order.add(-2);
                    return order;
                }
                order.add(first);
                left.remove(first);
            }
            return order;
        }

        int order(int g, long a, long b, long c, int k) {
            List<Long> arguments = arguments(g, a, b, c);
            if (arguments == null || k < 0) {
                return -1;
            }
            List<Integer> order = orderOf(g, arguments);
            if (k < order.size()) {
                return order.get(k);
            }
            return order.contains(-2) ? -2 : -1;
        }

        long get(int k, int n) {
            if (k < 0 || k >= objects.size() || n < 0 || n > 3 || objects.get(k).slots[n] == null) {
                return NOTHING;
            }
            return objects.get(k).slots[n];
        }

        int classOf(long v) {
            if (v >= Integer.MIN_VALUE && v <= Integer.MAX_VALUE) {
                return 1;
            }
            return v >= OBJECT && v < OBJECT + objects.size() ? objects.get((int) (v - OBJECT)).kind : -1;
        }
    }

    /** One run of calls on a new object and a new model. */
    private static final class Run {
        final Random random;
        final MultiDispatch x = new MultiDispatch();
        final Model model = new Model();
        final StringBuilder told = new StringBuilder();
        final int[] seen;
        // In busy runs bodies call much, and only generics above their own, so that calls get long, not deep.
        final boolean busy;
        // The first methods fit everything and have no NEXT, so that not every call ends at once.
        boolean atFirstMethods = false;
        boolean wrong = false;
        int calls = 0;

        Run(long seed, int[] seen) {
            random = new Random(seed);
            this.seen = seen;
            busy = seed % 2 == 0;
        }

        void due(String call, long got, long want) {
            calls++;
            told.append(call).append(" = ").append(got).append('\n');
            if (got != want && !wrong) {
                wrong = true;
                System.out.println(told + "due is " + want + "\n");
            }
        }

        void due(String call, boolean got, boolean want) {
            due(call, got ? 1 : 0, want ? 1 : 0);
        }

        boolean rarely() {
            return random.nextInt(40) == 0;
        }

        /** A number below the bound, rarely one outside. */
        int number(int bound) {
            if (rarely()) {
                int[] outside = {-1, bound, bound + 1, -7, 16, 24, 100, Integer.MIN_VALUE, Integer.MAX_VALUE};
                return outside[random.nextInt(outside.length)];
            }
            return random.nextInt(bound);
        }

        int knownClass() {
            return number(model.lines.size());
        }

        long value() {
            if (rarely()) {
                long[] odd = {1L << 31, -(1L << 31) - 1, OBJECT - 1, OBJECT + 19, OBJECT + 20, OBJECT * 2, OBJECT * 2 + 1,
                    Long.MIN_VALUE, Long.MAX_VALUE, Integer.MIN_VALUE, Integer.MAX_VALUE};
                return odd[random.nextInt(odd.length)];
            }
            if (model.objects.isEmpty() || random.nextInt(4) == 0) {
                return random.nextInt(4) - 1;
            }
            return OBJECT + random.nextInt(Math.min(6, model.objects.size()));
        }

        int generic() {
            return number(5);
        }

        void defineClass() {
            for (int i = random.nextInt(4); i > 0; i--) {
                int c = knownClass();
                due("under(" + c + ")", x.under(c), model.under(c));
            }
            for (int i = random.nextInt(3); i > 0; i--) {
                int n = number(4);
                int initial = random.nextInt(50);
                due("slot(" + n + ", " + initial + ")", x.slot(n, initial), model.slot(n, initial));
            }
            due("define()", x.define(), model.define());
        }

        void token(int kind, int value) {
            due("token(" + kind + ", " + value + ")", x.token(kind, value), model.token(kind, value));
        }

        int kindInside() {
            int[] much = {2, 3, 3, 3, 10, 10, 9};
            return busy && random.nextInt(8) > 0 ? much[random.nextInt(much.length)] : random.nextInt(13);
        }

        int kindAtEnd() {
            int[] leaves = {0, 0, 1, 1, 1, 1, 1, 1, 2, 2, 2, 12};
            return leaves[random.nextInt(busy ? 9 : leaves.length)];
        }

        int valueFor(int kind, int g, int parameters) {
            if (busy && kind == 3 && g >= 0 && g < 4) {
                return g + 1 + random.nextInt(4 - g);
            }
            return switch (kind) {
                case 0 -> random.nextInt(8) == 0 ? random.nextInt() : random.nextInt(4) - 1;
                case 1 -> number(rarely() ? 3 : parameters);
                case 3 -> generic();
                case 4, 5 -> number(4);
                case 11, 12 -> knownClass();
                default -> random.nextInt(20) - 5;
            };
        }

        void body(int g, int parameters) {
            int missing = 1;
            int length = 0;
            int most = busy && g == 4 ? 3 : 1 + random.nextInt(16);
            while (missing > 0 && length < 18) {
                int kind = length + missing < most ? kindInside() : kindAtEnd();
                if (atFirstMethods && kind == 2) {
                    kind = 0;
                }
                int value = valueFor(kind, g, parameters);
                token(kind, value);
                length++;
                int count = 0;
                if (kind == 3) {
                    count = value >= 0 && value < 5 ? model.parameters[value] : 0;
                } else if (kind == 4 || kind == 11) {
                    count = 1;
                } else if (kind == 9) {
                    count = 3;
                } else if (kind >= 5 && kind <= 10) {
                    count = 2;
                }
                missing += count - 1;
            }
            if (rarely()) {
                token(number(13), random.nextInt(3));
            }
        }

        void addMethod(int g) {
            int parameters = g >= 0 && g < 5 ? model.parameters[g] : 1;
            for (int i = rarely() ? random.nextInt(5) : parameters; i > 0; i--) {
                boolean single = !atFirstMethods && random.nextInt(5) == 0;
                long v = single ? value() : atFirstMethods ? 0 : random.nextInt(2) == 0 ? random.nextInt(2) : knownClass();
                due("special(" + single + ", " + v + ")", x.special(single, v), model.special(single, v));
            }
            body(g, parameters);
            due("method(" + g + ")", x.method(g), model.method(g));
        }

        void call() {
            int g = generic();
            long a = value();
            long b = value();
            long c = value();
            int answer = x.call(g, a, b, c);
            due("call(" + g + ", " + a + ", " + b + ", " + c + ")", answer, model.call(g, a, b, c));
            seen[answer + 1]++;
            due("result()", x.result(), model.result);
            due("steps()", x.steps(), model.steps);
        }

        void order() {
            int g = generic();
            long a = value();
            long b = value();
            long c = value();
            for (int k = random.nextInt(3) - 1; k < 3; k++) {
                int place = rarely() ? random.nextInt() : k;
                due("order(" + g + ", " + a + ", " + b + ", " + c + ", " + place + ")",
                        x.order(g, a, b, c, place), model.order(g, a, b, c, place));
            }
        }

        void look() {
            int k = number(20);
            int n = number(4);
            due("get(" + k + ", " + n + ")", x.get(k, n), model.get(k, n));
            long v = value();
            due("classOf(" + v + ")", x.classOf(v), model.classOf(v));
            int c = knownClass();
            for (int i = 0; i < 6; i++) {
                due("line(" + c + ", " + i + ")", x.line(c, i), model.line(c, i));
            }
        }

        void change() {
            int n = random.nextInt(100);
            if (n < 30) {
                int c = knownClass();
                due("make(" + c + ")", x.make(c), model.make(c));
            } else if (n < 45) {
                int g = generic();
                int parameters = 1 + number(3);
                due("generic(" + g + ", " + parameters + ")", x.generic(g, parameters), model.generic(g, parameters));
            } else if (n < 65) {
                int m = number(24);
                due("remove(" + m + ")", x.remove(m), model.remove(m));
            } else if (n < 70) {
                int c = knownClass();
                due("seal(" + c + ")", x.seal(c), model.seal(c));
            } else if (n < 73) {
                due("clear()", x.clear(), model.clear());
            }
        }

        void go() {
            for (int g = 0; g < 5; g++) {
                int n = 1 + random.nextInt(3);
                due("generic(" + g + ", " + n + ")", x.generic(g, n), model.generic(g, n));
            }
            for (int i = 0; i < 4; i++) {
                defineClass();
                int c = model.lines.size() - 1;
                due("make(" + c + ")", x.make(c), model.make(c));
            }
            atFirstMethods = true;
            for (int g = 0; g < 5; g++) {
                addMethod(g);
            }
            atFirstMethods = false;
            while (calls < CALLS && !wrong) {
                int n = random.nextInt(100);
                if (n < 5) {
                    defineClass();
                } else if (n < 30) {
                    addMethod(generic());
                } else if (n < 65) {
                    call();
                } else if (n < 75) {
                    order();
                } else if (n < 85) {
                    look();
                } else {
                    change();
                }
            }
        }
    }

    public static void main(String[] args) {
        int[] seen = new int[10];
        int wrong = 0;
        for (int seed = 1; seed <= RUNS && wrong < 3; seed++) {
            Run run = new Run(seed, seen);
            run.go();
            wrong += run.wrong ? 1 : 0;
        }
        // Runs that never meet an answer test nothing of it.
        for (int answer = -1; answer <= 8; answer++) {
            if (seen[answer + 1] < 20) {
                System.out.println("call answered " + answer + " only " + seen[answer + 1] + " times");
                wrong++;
            }
        }
        System.out.println(wrong == 0 ? RUNS + " runs are as the model's" : "the runs are not as the model's");
        if (args.length > 0) {
            System.out.println(java.util.Arrays.toString(seen));
        }
        System.exit(wrong == 0 ? 0 : 1);
    }
}
