import java.util.ArrayList;
import java.util.HashMap;
import java.util.HashSet;
import java.util.List;
import java.util.Map;
import java.util.Random;
import java.util.Set;
import java.util.TreeSet;

/**
 * Random programs against a model written another way: it makes the program as a tree together with
 * its text, and a thread carries the list of all that it has still to do instead of a place.
 */
public final class ScheduleCheckModel {
    private static final int ROUNDS = 6000;

    private interface Formula {
        int in(State s, int thread);
    }

    private enum Kind { ASSIGN, TAKE, GIVE, WAIT, WAKE, WAKE_ALL, ASSERT, IF, WHILE, STOP }

    private static final class Step {
        int number;
        Kind kind;
        boolean toLocal;
        int target;
        Formula formula;
        final Set<Integer> variables = new HashSet<>();
        List<Step> then = new ArrayList<>();
        List<Step> other = new ArrayList<>();
    }

    /** All lists are never changed once a state stands. */
    private record State(List<Integer> values, List<Integer> owners, List<List<Integer>> locals,
                         List<List<Step>> todo, List<Integer> waits, int kind, int culprit) {
        int place(int thread) {
            return todo.get(thread).isEmpty() ? -1 : todo.get(thread).get(0).number;
        }

        boolean isEnd() {
            return todo.stream().allMatch(List::isEmpty);
        }
    }

    private record Found(State state, int depth, int mover, int parent, List<Integer> next) {
    }

    private final Random random;
    private final StringBuilder text = new StringBuilder();
    private final List<String> variables = new ArrayList<>();
    private final List<String> locks = new ArrayList<>();
    private final List<Integer> values = new ArrayList<>();
    private final List<List<Step>> threads = new ArrayList<>();
    private final List<Integer> localCounts = new ArrayList<>();
    private List<String> locals;
    private String held;
    private Step making;
    private int statements;
    private int atoms;
    private final List<Found> found = new ArrayList<>();
    private final Map<State, Integer> numbers = new HashMap<>();
    private boolean full;
    private boolean wakeHasChoice;
    private Subject subject;

    private ScheduleCheckModel(long seed) {
        random = new Random(seed);
    }

    public static void main(String[] args) {
        int[] seen = new int[7];
        Subject used = new Subject();
        for (int round = 0; round < ROUNDS; round++) {
            ScheduleCheckModel model = new ScheduleCheckModel(round);
            model.makeProgram();
            if (model.text.length() > 1600 || model.atoms > 150 || model.statements > 50) {
                continue;
            }
            model.explore();
            // A used object must answer as a new one does.
            model.subject = used;
            model.compare(seen);
            used = model.subject;
        }
        for (int i = 0; i < seen.length; i++) {
            Probe.due("rounds that show sort " + i, seen[i] > 30 ? 1 : 0, 1);
        }
        Probe.finish("ScheduleCheckModel");
    }

    private void put(String token) {
        boolean glued = text.length() > 0 && !Character.isLetterOrDigit(text.charAt(text.length() - 1))
            && "=!<>&|".indexOf(text.charAt(text.length() - 1)) < 0 && random.nextBoolean();
        if (!glued && text.length() > 0) {
            text.append(random.nextInt(9) == 0 ? "\n" : " ");
        }
        text.append(token);
    }

    private void put(String... tokens) {
        for (String token : tokens) {
            put(token);
        }
    }

    private int upTo(int most) {
        return random.nextInt(most + 1);
    }

    private void makeProgram() {
        boolean wide = random.nextInt(10) == 0;
        int variableCount = wide ? 8 : upTo(3);
        int lockCount = wide ? 4 : upTo(2);
        while (variables.size() < variableCount || locks.size() < lockCount) {
            if (locks.size() == lockCount || variables.size() < variableCount && random.nextBoolean()) {
                makeVariable();
            } else {
                locks.add("m" + locks.size());
                put("lock", "m" + (locks.size() - 1), ";");
            }
        }
        int count = 1 + upTo(3);
        for (int i = 0; i < count; i++) {
            makeThread();
        }
    }

    private void makeVariable() {
        String name = "v" + variables.size();
        variables.add(name);
        put("var", name);
        int start = 0;
        if (random.nextBoolean()) {
            put("=");
            boolean negative = random.nextBoolean();
            if (negative) {
                put("-");
            }
            int number = random.nextBoolean() ? upTo(3) : upTo(127);
            put((random.nextInt(5) == 0 ? "00" : "") + number);
            start = negative ? -number : number;
        }
        values.add(start);
        put(";");
    }

    private void makeThread() {
        put("thread", "{");
        locals = new ArrayList<>();
        int count = random.nextBoolean() ? 0 : upTo(3);
        for (int i = 0; i < count; i++) {
            int sort = random.nextInt(6);
            String name = sort == 0 ? "v" + upTo(2) : sort == 1 ? "m" + upTo(1) : "a" + i;
            if (!locals.contains(name)) {
                locals.add(name);
                put("local", name, ";");
            }
        }
        localCounts.add(locals.size());
        threads.add(makeBody(random.nextInt(4) == 0 ? 14 : 6));
        put("}");
    }

    /** Most locks are used by their owner, or few programs would come beyond an error. */
    private List<Step> makeBody(int most) {
        List<String> usable = open(locks);
        List<Step> body = new ArrayList<>();
        held = usable.isEmpty() || random.nextInt(4) == 0 ? null : usable.get(random.nextInt(usable.size()));
        if (held == null) {
            return makeSteps(0, most);
        }
        body.add(makeLockUse(Kind.TAKE, held));
        body.addAll(makeSteps(0, most));
        body.add(makeLockUse(Kind.GIVE, held));
        held = null;
        body.addAll(makeSteps(0, 2));
        return body;
    }

    private Step makeLockUse(Kind kind, String name) {
        Step step = new Step();
        begin(step, kind);
        step.target = locks.indexOf(name);
        put(kind == Kind.WAKE_ALL ? "wake" : kind.name().toLowerCase());
        if (kind == Kind.WAKE_ALL) {
            put("all");
        }
        put(name, ";");
        return step;
    }

    private List<Step> makeSteps(int depth, int most) {
        List<Step> steps = new ArrayList<>();
        int count = upTo(most);
        for (int i = 0; i < count && statements < 45 && atoms < 120; i++) {
            Step step = makeStep(depth);
            if (step != null) {
                steps.add(step);
            }
        }
        return steps;
    }

    private List<String> open(List<String> names) {
        List<String> open = new ArrayList<>(names);
        open.removeAll(locals);
        return open;
    }

    private Step makeStep(int depth) {
        int choice = random.nextInt(20);
        List<String> usable = open(locks);
        Step step = new Step();
        making = step;
        if (choice < 7) {
            List<String> names = open(variables);
            names.addAll(locals);
            if (names.isEmpty()) {
                return null;
            }
            begin(step, Kind.ASSIGN);
            String name = names.get(random.nextInt(names.size()));
            step.toLocal = locals.contains(name);
            step.target = step.toLocal ? locals.indexOf(name) : variables.indexOf(name);
            if (!step.toLocal) {
                step.variables.add(step.target);
            }
            put(name, "=");
            step.formula = makeFormula(0, 0);
            put(";");
        } else if (choice < 14) {
            if (usable.isEmpty()) {
                return null;
            }
            Kind[] kinds = {Kind.TAKE, Kind.TAKE, Kind.TAKE, Kind.GIVE, Kind.WAIT, Kind.WAKE, Kind.WAKE_ALL};
            Kind[] owned = {Kind.WAIT, Kind.WAIT, Kind.WAIT, Kind.WAKE, Kind.WAKE, Kind.WAKE_ALL, Kind.WAKE};
            return held == null || random.nextInt(9) == 0
                ? makeLockUse(kinds[choice - 7], usable.get(random.nextInt(usable.size())))
                : makeLockUse(owned[choice - 7], held);
        } else if (choice == 14) {
            begin(step, Kind.ASSERT);
            put("assert");
            step.formula = makeFormula(0, 0);
            put(";");
        } else if (choice == 15) {
            begin(step, Kind.STOP);
            put("stop", ";");
        } else {
            if (depth == 6) {
                return null;
            }
            makeCondition(step, choice < 18 ? Kind.IF : Kind.WHILE, depth);
        }
        return step;
    }

    private void begin(Step step, Kind kind) {
        step.kind = kind;
        step.number = statements++;
    }

    private void makeCondition(Step step, Kind kind, int depth) {
        begin(step, kind);
        put(kind == Kind.IF ? "if" : "while", "(");
        step.formula = makeFormula(0, 0);
        put(")", "{");
        step.then = makeSteps(depth + 1, 3);
        put("}");
        if (kind == Kind.IF && random.nextBoolean()) {
            put("else", "{");
            step.other = makeSteps(depth + 1, 3);
            put("}");
        }
    }

    /** The levels of the grammar, from || down to an atom. */
    private Formula makeFormula(int level, int depth) {
        if (level == 5) {
            return makeAtom(depth);
        }
        String[][] signs = {{"||"}, {"&&"}, {"==", "!=", "<", "<=", ">", ">="}, {"+", "-"}, {"*"}};
        Formula left = makeFormula(level + 1, depth);
        int more = random.nextInt(4 + 2 * depth) == 0 ? (level == 2 ? 1 : 1 + upTo(1)) : 0;
        for (int i = 0; i < more; i++) {
            String sign = signs[level][random.nextInt(signs[level].length)];
            put(sign);
            Formula one = left;
            Formula two = makeFormula(level + 1, depth);
            left = (s, t) -> join(sign, one.in(s, t), two.in(s, t));
        }
        return left;
    }

    private Formula makeAtom(int depth) {
        int choice = random.nextInt(10);
        if (depth < 3 && choice == 0) {
            put("(");
            Formula inner = makeFormula(0, depth + 1);
            put(")");
            return inner;
        }
        if (depth < 3 && choice < 3) {
            put(choice == 1 ? "-" : "!");
            Formula inner = makeAtom(depth + 1);
            return choice == 1 ? (s, t) -> wrap(-inner.in(s, t)) : (s, t) -> inner.in(s, t) == 0 ? 1 : 0;
        }
        atoms++;
        List<String> names = open(variables);
        names.addAll(locals);
        if (names.isEmpty() || choice < 6) {
            int number = random.nextInt(4) == 0 ? upTo(127) : upTo(3);
            put(Integer.toString(number));
            return (s, t) -> number;
        }
        String name = names.get(random.nextInt(names.size()));
        put(name);
        if (locals.contains(name)) {
            int k = locals.indexOf(name);
            return (s, t) -> s.locals().get(t).get(k);
        }
        int v = variables.indexOf(name);
        making.variables.add(v);
        return (s, t) -> s.values().get(v);
    }

    private static int wrap(int n) {
        return Math.floorMod(n + 128, 256) - 128;
    }

    private static int join(String sign, int a, int b) {
        boolean holds = switch (sign) {
            case "||" -> a != 0 | b != 0;
            case "&&" -> a != 0 & b != 0;
            case "==" -> a == b;
            case "!=" -> a != b;
            case "<" -> a < b;
            case "<=" -> a <= b;
            case ">" -> a > b;
            case ">=" -> a >= b;
            default -> false;
        };
        return switch (sign) {
            case "+" -> wrap(a + b);
            case "-" -> wrap(a - b);
            case "*" -> wrap(a * b);
            default -> holds ? 1 : 0;
        };
    }

    private void explore() {
        List<Integer> owners = new ArrayList<>();
        locks.forEach(lock -> owners.add(-1));
        List<List<Integer>> zeros = new ArrayList<>();
        List<Integer> waits = new ArrayList<>();
        for (int count : localCounts) {
            zeros.add(new ArrayList<>(java.util.Collections.nCopies(count, 0)));
            waits.add(0);
        }
        number(new State(values, owners, zeros, threads, waits, 0, -1), 0, -1, -1);
        for (int i = 0; i < found.size() && !full; i++) {
            State state = found.get(i).state();
            for (int t = 0; t < threads.size() && state.kind() == 0; t++) {
                if (isReady(state, t)) {
                    List<State> after = after(state, t);
                    wakeHasChoice |= after.size() > 1;
                    for (State next : after) {
                        found.get(i).next().add(number(next, found.get(i).depth() + 1, t, i));
                    }
                }
            }
        }
    }

    private int number(State state, int depth, int mover, int parent) {
        Integer known = numbers.get(state);
        if (known != null) {
            return known;
        }
        full |= found.size() == 800;
        numbers.put(state, found.size());
        found.add(new Found(state, depth, mover, parent, new ArrayList<>()));
        return found.size() - 1;
    }

    private static boolean isReady(State s, int t) {
        if (s.todo().get(t).isEmpty() || s.waits().get(t) == 1) {
            return false;
        }
        Step step = s.todo().get(t).get(0);
        boolean needsLock = step.kind == Kind.TAKE || s.waits().get(t) == 2;
        return !needsLock || s.owners().get(step.target) == -1;
    }

    private static <T> List<T> with(List<T> list, int i, T item) {
        List<T> copy = new ArrayList<>(list);
        copy.set(i, item);
        return copy;
    }

    private static State going(State s, int t, List<Step> todo) {
        return new State(s.values(), s.owners(), s.locals(), with(s.todo(), t, todo), s.waits(), 0, -1);
    }

    private static State owning(State s, int lock, int owner) {
        return new State(s.values(), with(s.owners(), lock, owner), s.locals(), s.todo(), s.waits(), 0, -1);
    }

    private static State waiting(State s, int t, int how) {
        return new State(s.values(), s.owners(), s.locals(), s.todo(), with(s.waits(), t, how), 0, -1);
    }

    private static State failed(State s, int t, int kind) {
        return new State(s.values(), s.owners(), s.locals(), s.todo(), s.waits(), kind, t);
    }

    private static List<Step> joined(List<Step> front, List<Step> back) {
        List<Step> all = new ArrayList<>(front);
        all.addAll(back);
        return all;
    }

    private static List<State> after(State s, int t) {
        List<Step> todo = s.todo().get(t);
        Step step = todo.get(0);
        List<Step> rest = todo.subList(1, todo.size());
        if (s.waits().get(t) == 2) {
            return List.of(going(owning(waiting(s, t, 0), step.target, t), t, rest));
        }
        State on = going(s, t, rest);
        int result = step.formula == null ? 0 : step.formula.in(s, t);
        switch (step.kind) {
            case ASSIGN:
                return List.of(step.toLocal
                    ? new State(on.values(), on.owners(),
                        with(on.locals(), t, with(on.locals().get(t), step.target, result)), on.todo(), on.waits(), 0, -1)
                    : new State(with(on.values(), step.target, result), on.owners(), on.locals(), on.todo(), on.waits(), 0, -1));
            case TAKE:
                return List.of(owning(on, step.target, t));
            case ASSERT:
                return List.of(result == 0 ? failed(s, t, 1) : on);
            case IF:
                return List.of(going(s, t, joined(result != 0 ? step.then : step.other, rest)));
            case WHILE:
                return List.of(result != 0 ? going(s, t, joined(step.then, todo)) : on);
            case STOP:
                return List.of(going(s, t, List.of()));
            default:
                return s.owners().get(step.target) == t ? lockUse(s, t, step, on) : List.of(failed(s, t, 2));
        }
    }

    private static List<State> lockUse(State s, int t, Step step, State on) {
        List<Integer> waiting = new ArrayList<>();
        for (int u = 0; u < s.waits().size(); u++) {
            if (s.waits().get(u) == 1 && s.todo().get(u).get(0).target == step.target) {
                waiting.add(u);
            }
        }
        if (step.kind == Kind.GIVE) {
            return List.of(owning(on, step.target, -1));
        }
        if (step.kind == Kind.WAIT) {
            return List.of(waiting(owning(s, step.target, -1), t, 1));
        }
        if (step.kind == Kind.WAKE && !waiting.isEmpty()) {
            return waiting.stream().map(u -> waiting(on, u, 2)).toList();
        }
        State all = on;
        for (int u : waiting) {
            all = waiting(all, u, 2);
        }
        return List.of(all);
    }

    private void due(String call, int got, int want) {
        Probe.due(got == want ? call : call + " of " + text.toString().replace('\n', ' '), got, want);
    }

    /** The object with the program, or a new one if that has had all its calls. */
    private Subject ask() {
        if (!subject.hasRoomFor(1)) {
            subject = new Subject();
            check();
        }
        return subject;
    }

    private void check() {
        due("check", subject.check(text.toString()), full ? Probe.FULL : Probe.NONE);
    }

    private void compare(int[] seen) {
        if (!subject.hasRoomFor(Subject.callsToCheck(text.toString()))) {
            subject = new Subject();
        }
        check();
        if (full) {
            seen[0]++;
            for (int what = 0; what < 9; what++) {
                due("count " + what, ask().count(what), 0);
            }
            return;
        }
        seen[6] += wakeHasChoice ? 1 : 0;
        compareCounts(seen);
        for (int i = 0; i < found.size(); i++) {
            compareState(i);
        }
        for (int v = 0; v < variables.size(); v++) {
            compareVariable(v, seen);
        }
    }

    private boolean isSort(int i, int sort) {
        State s = found.get(i).state();
        if (sort == 2) {
            return s.kind() != 0;
        }
        if (sort == 0) {
            return s.isEnd();
        }
        boolean anyReady = false;
        for (int t = 0; t < threads.size(); t++) {
            anyReady |= isReady(s, t);
        }
        return s.kind() == 0 && !s.isEnd() && !anyReady;
    }

    private void compareCounts(int[] seen) {
        int pairs = 0;
        for (Found one : found) {
            pairs += new HashSet<>(one.next()).size();
        }
        int[] counts = new int[3];
        int[] firsts = {Probe.NONE, Probe.NONE, Probe.NONE};
        for (int i = found.size() - 1; i >= 0; i--) {
            for (int sort = 0; sort < 3; sort++) {
                if (isSort(i, sort)) {
                    counts[sort]++;
                    firsts[sort] = i;
                }
            }
        }
        int[] due = {found.size(), pairs, counts[0], counts[1], counts[2],
            threads.size(), variables.size(), locks.size(), statements};
        for (int what = 0; what < due.length; what++) {
            due("count " + what, ask().count(what), due[what]);
        }
        for (int sort = 0; sort < 3; sort++) {
            due("first " + sort, ask().first(sort), firsts[sort]);
            seen[1 + sort] += counts[sort] > 0 ? 1 : 0;
        }
    }

    private void compareState(int i) {
        Found one = found.get(i);
        State s = one.state();
        int[] looks = {one.depth(), one.mover(), one.parent(), s.kind(), s.culprit()};
        for (int what = 0; what < looks.length; what++) {
            due("look " + i + " " + what, ask().look(i, what), looks[what]);
        }
        for (int v = 0; v <= variables.size(); v++) {
            due("value " + i + " " + v, ask().value(i, v), v < variables.size() ? s.values().get(v) : 1000);
        }
        for (int lock = 0; lock <= locks.size(); lock++) {
            due("owner " + i + " " + lock, ask().owner(i, lock), lock < locks.size() ? s.owners().get(lock) : Probe.NONE);
        }
        for (int t = 0; t < threads.size(); t++) {
            due("place " + i + " " + t, ask().place(i, t), s.place(t));
            due("waits " + i + " " + t, ask().waits(i, t), s.waits().get(t));
            for (int k = 0; k <= 3; k++) {
                int due = k < localCounts.get(t) ? s.locals().get(t).get(k) : 1000;
                due("local " + i + " " + t + " " + k, ask().local(i, t, k), due);
            }
        }
        for (int k = 0; k <= one.next().size(); k++) {
            int due = k < one.next().size() ? one.next().get(k) : Probe.NONE;
            due("next " + i + " " + k, ask().next(i, k), due);
        }
    }

    private void compareVariable(int v, int[] seen) {
        TreeSet<Integer> ends = new TreeSet<>();
        int race = Probe.NONE;
        for (int i = found.size() - 1; i >= 0; i--) {
            State s = found.get(i).state();
            if (s.isEnd()) {
                ends.add(s.values().get(v));
            }
            race = hasRace(s, v) ? i : race;
        }
        seen[4] += ends.size() > 1 ? 1 : 0;
        seen[5] += race >= 0 ? 1 : 0;
        due("outcome 0", ask().outcome(v, 0), ends.isEmpty() ? 1000 : ends.first());
        due("outcome 1", ask().outcome(v, 1), ends.isEmpty() ? 1000 : ends.last());
        due("outcome 2", ask().outcome(v, 2), ends.isEmpty() ? 1000 : ends.size());
        due("race " + v, ask().race(v), race);
    }

    private boolean hasRace(State s, int v) {
        for (int t = 0; t < threads.size(); t++) {
            for (int u = 0; u < threads.size(); u++) {
                if (t != u && s.kind() == 0 && stepOf(s, t) != null && stepOf(s, u) != null) {
                    Step one = stepOf(s, t);
                    boolean writes = one.kind == Kind.ASSIGN && !one.toLocal && one.target == v;
                    if (writes && stepOf(s, u).variables.contains(v)) {
                        return true;
                    }
                }
            }
        }
        return false;
    }

    /** The statement that a ready thread does next, unless it is woken. */
    private static Step stepOf(State s, int t) {
        return isReady(s, t) && s.waits().get(t) == 0 ? s.todo().get(t).get(0) : null;
    }
}
