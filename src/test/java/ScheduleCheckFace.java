import java.lang.reflect.Constructor;
import java.lang.reflect.Field;
import java.lang.reflect.Method;
import java.lang.reflect.Modifier;
import java.util.Arrays;
import java.util.List;
import java.util.Set;
import java.util.TreeSet;

/** What stands before the terms: what the class is, and its public face. */
public final class ScheduleCheckFace {
    private static final int NONE = -2;
    private static final int CALLS_OF_A_STATE = 20;

    public static void main(String[] args) {
        everySchedule();
        everyDeed();
        shortestWays();
        allIsTold();
        constants();
        face();
        noMore();
        Probe.finish("ScheduleCheckFace");
    }

    private static void due(String what, int got, int want) {
        Probe.due(what, got, want);
    }

    /** An object with the program, the same one as long as it has calls left for one state more. */
    private static Subject renewed(Subject x, String text) {
        return x.hasRoomFor(CALLS_OF_A_STATE) ? x : Subject.made(text);
    }

    /** Threads of steps "x = x SIGN NUMBER", gone through here in every order that there is. */
    private static final class Orders {
        final String[][] threads;
        final Set<String> states = new TreeSet<>();
        final TreeSet<Integer> endValues = new TreeSet<>();
        int schedules = 0;

        Orders(String[]... threads) {
            this.threads = threads;
            follow(1, new int[threads.length]);
        }

        String text() {
            StringBuilder text = new StringBuilder("var x = 1; ");
            for (String[] thread : threads) {
                text.append("thread { ");
                for (String deed : thread) {
                    text.append("x = x ").append(deed).append("; ");
                }
                text.append("} ");
            }
            return text.toString();
        }

        private void follow(int x, int[] done) {
            StringBuilder state = new StringBuilder().append(x);
            int first = 0;
            boolean isEnd = true;
            for (int thread = 0; thread < threads.length; thread++) {
                boolean hasEnded = done[thread] == threads[thread].length;
                state.append(' ').append(hasEnded ? -1 : first + done[thread]);
                first += threads[thread].length;
                if (!hasEnded) {
                    isEnd = false;
                    int[] then = done.clone();
                    then[thread]++;
                    follow(result(x, threads[thread][done[thread]]), then);
                }
            }
            states.add(state.toString());
            if (isEnd) {
                endValues.add(x);
                schedules++;
            }
        }

        private static int result(int x, String deed) {
            int number = Integer.parseInt(deed.substring(2));
            return (byte) (deed.charAt(0) == '+' ? x + number : deed.charAt(0) == '-' ? x - number : x * number);
        }
    }

    private static String[] thread(String... deeds) {
        return deeds;
    }

    private static void everySchedule() {
        Probe.sentence("every schedule is tried, every state that can come is found");
        tried(1, new Orders(thread("+ 1", "* 2", "- 3")));
        tried(6, new Orders(thread("+ 1", "* 2"), thread("* 3", "- 4")));
        tried(70, new Orders(thread("+ 1", "* 2", "+ 3", "* 2"), thread("* 3", "- 4", "* 5", "- 6")));
        tried(90, new Orders(thread("+ 1", "* 2"), thread("* 3", "- 4"), thread("* 5", "+ 7")));
        tried(24, new Orders(thread("+ 1"), thread("* 2"), thread("- 3"), thread("* 5")));
        tried(180, new Orders(thread("+ 1", "* 3"), thread("* 2", "- 5"), thread("- 3"), thread("* 7")));
        tried(24, new Orders(thread("- 1"), thread("* 0"), thread("+ 1"), thread("* 127")));
    }

    private static void tried(int schedules, Orders orders) {
        String text = orders.text();
        due("schedules of " + text, orders.schedules, schedules);
        Set<String> found = new TreeSet<>();
        Subject x = Subject.made(text);
        int states = x.count(0);
        due("states of " + text, states, orders.states.size());
        due("ends of " + text, x.count(2), orders.endValues.size());
        due("least end of " + text, x.outcome(0, 0), orders.endValues.first());
        due("greatest end of " + text, x.outcome(0, 1), orders.endValues.last());
        due("different ends of " + text, x.outcome(0, 2), orders.endValues.size());
        for (int state = 0; state < states; state++) {
            x = renewed(x, text);
            StringBuilder told = new StringBuilder().append(x.value(state, 0));
            for (int thread = 0; thread < orders.threads.length; thread++) {
                told.append(' ').append(x.place(state, thread));
            }
            found.add(told.toString());
        }
        Probe.holds("states of " + text + " are " + found + ", due is " + orders.states, found.equals(orders.states));
    }

    /** One thread's luck shows only in one schedule of all: it is found. */
    private static void everyDeed() {
        String[] bodies = {"x = 1;", "if (x == 1) { x = 2; }", "if (x == 2) { x = 3; }", "if (x == 3) { x = 4; }"};
        int[][] orders = {{0, 1, 2, 3}, {3, 2, 1, 0}, {1, 3, 0, 2}, {2, 0, 3, 1}};
        for (int[] order : orders) {
            StringBuilder text = new StringBuilder("var x; ");
            for (int body : order) {
                text.append("thread { ").append(bodies[body]).append(" } ");
            }
            Subject x = Subject.made(text.toString());
            due("least of " + text, x.outcome(0, 0), 1);
            due("greatest of " + text, x.outcome(0, 1), 4);
            due("different of " + text, x.outcome(0, 2), 4);
            String watched = text.toString().replace("x = 4;", "assert 0;");
            x = Subject.made(watched);
            due("errors of " + watched, x.count(4), 1);
            due("its steps", x.look(x.first(2), 0), 7);
        }
    }

    private static final String[] PROGRAMS = {
        "thread { }", "thread { stop; stop; }", "thread { while (1) { } }", "lock m; thread { take m; take m; }",
        "var x; thread { while (x < 9) { x = x + 1; } assert x < 9; } thread { x = 8; }",
        "var x; lock m; lock n; thread { take m; take n; x = x + 1; give n; give m; }"
            + " thread { take n; take m; assert x; give m; give n; x = 7; }",
        "lock m; thread { take m; wait m; give m; } thread { take m; wait m; give m; } thread { take m; wake m; give m; }",
        "lock m; thread { take m; wait m; } thread { take m; wake all m; wake m; give m; give m; }",
        "var x; thread { while (1) { x = 1 - x; } } thread { if (x) { stop; } assert x; } thread { x = x; }",
        "var a; var b; thread { a = 1; if (b) { stop; } assert !b; } thread { b = 1; if (a) { stop; } assert !a; }"};

    /** Where all steps lead, read by next alone. */
    private static int[][] steps(String text) {
        Subject x = Subject.made(text);
        int[][] steps = new int[x.count(0)][];
        for (int state = 0; state < steps.length; state++) {
            x = renewed(x, text);
            int[] row = new int[CALLS_OF_A_STATE];
            int size = 0;
            while (x.next(state, size) != NONE) {
                row[size] = x.next(state, size);
                size++;
            }
            steps[state] = Arrays.copyOf(row, size);
        }
        return steps;
    }

    /** The least number of steps to each state: rounds over all steps until nothing gets less. */
    private static int[] distances(int[][] steps) {
        int[] least = new int[steps.length];
        Arrays.fill(least, 1, least.length, steps.length);
        for (int round = 0; round < steps.length; round++) {
            for (int state = 0; state < steps.length; state++) {
                for (int next : steps[state]) {
                    least[next] = Math.min(least[next], least[state] + 1);
                }
            }
        }
        return least;
    }

    private static boolean has(int[] row, int wanted) {
        return Arrays.stream(row).anyMatch(one -> one == wanted);
    }

    private static void shortestWays() {
        Probe.sentence("and the shortest ways to them.");
        for (String text : PROGRAMS) {
            int[][] steps = steps(text);
            int[] least = distances(steps);
            Subject x = Subject.made(text);
            for (int state = 0; state < steps.length; state++) {
                x = renewed(x, text);
                due("steps to " + state + " of " + text, x.look(state, 0), least[state]);
                int before = x.look(state, 2);
                if (state == 0) {
                    due("before the first", before, -1);
                    continue;
                }
                Probe.holds("a step leads to " + state + " of " + text, has(steps[before], state));
                due("steps before " + state + " of " + text, x.look(before, 0), least[state] - 1);
                int mover = x.look(state, 1);
                boolean moved = x.place(before, mover) != x.place(state, mover) || x.look(state, 4) == mover
                    || x.waits(before, mover) != x.waits(state, mover);
                Probe.holds("thread " + mover + " goes on to " + state + " of " + text, moved);
            }
        }
        // Three steps lead to the error, and so do six, nine and more.
        Subject x = Subject.made("var x; thread { while (1) { x = 1; x = 0; } } thread { assert !x; }");
        int error = x.first(2);
        due("steps", x.look(error, 0), 3);
        due("the last", x.look(error, 1), 1);
        int before = x.look(error, 2);
        due("the one before", x.look(before, 1), 0);
        due("the first", x.look(x.look(before, 2), 1), 0);
        due("from", x.look(x.look(before, 2), 2), 0);
    }

    /** Ends, deadlocks and errors are counted here by what is told of each state alone. */
    private static void allIsTold() {
        Probe.sentence("and told are deadlocks, errors, races, all ends");
        for (String text : PROGRAMS) {
            int[][] steps = steps(text);
            int[] counts = new int[3];
            int[] firsts = {NONE, NONE, NONE};
            Subject x = Subject.made(text);
            int threads = x.count(5);
            for (int state = 0; state < steps.length; state++) {
                x = renewed(x, text);
                boolean haveEnded = true;
                for (int thread = 0; thread < threads; thread++) {
                    haveEnded &= x.place(state, thread) == -1;
                }
                int sort = x.look(state, 3) != 0 ? 2 : haveEnded ? 0 : 1;
                if (steps[state].length == 0) {
                    counts[sort]++;
                    firsts[sort] = firsts[sort] == NONE ? state : firsts[sort];
                }
            }
            x = Subject.made(text);
            for (int sort = 0; sort < 3; sort++) {
                due("count " + (2 + sort) + " of " + text, x.count(2 + sort), counts[sort]);
                due("first " + sort + " of " + text, x.first(sort), firsts[sort]);
            }
        }
        // One program has them all: an end, a deadlock, an error and a race.
        Subject x = Subject.made("var x; lock m; lock n; thread { take m; take n; x = x + 1; give n; give m; x = 3; }"
            + " thread { take n; take m; assert x; give m; give n; x = 4; }");
        due("ends", x.count(2), 2);
        due("least end", x.outcome(0, 0), 3);
        due("greatest end", x.outcome(0, 1), 4);
        due("deadlocks", x.count(3), 1);
        due("place of thread 0 in the deadlock", x.place(x.first(1), 0), 1);
        due("place of thread 1 in the deadlock", x.place(x.first(1), 1), 7);
        due("errors", x.count(4), 1);
        due("place of the error", x.place(x.first(2), 1), 8);
        // Thread 0 has given both locks and is at its last, thread 1 has both and is at its assert.
        due("place of thread 0 in the race", x.place(x.race(0), 0), 5);
        due("place of thread 1 in the race", x.place(x.race(0), 1), 8);
    }

    private static void constants() {
        Probe.sentence("public static final int REFUSED = -1, NONE = -2, FULL = -3;");
        due("REFUSED", ScheduleCheck.REFUSED, -1);
        due("NONE", ScheduleCheck.NONE, -2);
        due("FULL", ScheduleCheck.FULL, -3);
    }

    /** All that is not private, as the document writes it, but for the names of parameters. */
    private static Set<String> seen() {
        Set<String> seen = new TreeSet<>();
        for (Method one : ScheduleCheck.class.getDeclaredMethods()) {
            if (!Modifier.isPrivate(one.getModifiers())) {
                seen.add(one.toString().replace("ScheduleCheck.", ""));
            }
        }
        for (Field one : ScheduleCheck.class.getDeclaredFields()) {
            if (!Modifier.isPrivate(one.getModifiers())) {
                seen.add(one.toString().replace("ScheduleCheck.", ""));
            }
        }
        for (Constructor<?> one : ScheduleCheck.class.getDeclaredConstructors()) {
            seen.add(one.toString());
        }
        return seen;
    }

    private static void face() {
        Probe.sentence("public ScheduleCheck(); public int feed(int a, int b, int c, int d, int e); public int end(int n);"
            + " public int check(); public int count(int what); public int first(int what);"
            + " public int look(int state, int what); public int value(int state, int variable);"
            + " public int local(int state, int thread, int k); public int place(int state, int thread);"
            + " public int owner(int state, int lock); public int waits(int state, int thread);"
            + " public int next(int state, int k); public int outcome(int variable, int what); public int race(int variable);");
        Set<String> face = new TreeSet<>(List.of("public ScheduleCheck()", "public static final int REFUSED",
            "public static final int NONE", "public static final int FULL", "public int feed(int,int,int,int,int)",
            "public int end(int)", "public int check()", "public int count(int)", "public int first(int)",
            "public int look(int,int)", "public int value(int,int)", "public int local(int,int,int)",
            "public int place(int,int)", "public int owner(int,int)", "public int waits(int,int)",
            "public int next(int,int)", "public int outcome(int,int)", "public int race(int)"));
        Set<String> seen = seen();
        Probe.holds("the face is " + seen + ", due is " + face, seen.equals(face));
    }

    private static void noMore() {
        Probe.sentence("public final class ScheduleCheck");
        Class<?> type = ScheduleCheck.class;
        due("modifiers", type.getModifiers(), Modifier.PUBLIC | Modifier.FINAL);
        Probe.holds("no package", type.getPackageName().isEmpty());
        Probe.holds("nothing is extended", type.getSuperclass() == Object.class);
        due("interfaces", type.getInterfaces().length, 0);
        for (Class<?> inside : type.getDeclaredClasses()) {
            int modifiers = inside.getModifiers();
            Probe.holds(inside + " is static", Modifier.isStatic(modifiers));
            Probe.holds(inside + " is no part of the face", !Modifier.isPublic(modifiers) && !Modifier.isProtected(modifiers));
        }
    }
}
