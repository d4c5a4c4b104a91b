import java.lang.reflect.Constructor;
import java.lang.reflect.Field;
import java.lang.reflect.Method;
import java.lang.reflect.Modifier;
import java.util.Set;
import java.util.TreeSet;

/** Each promise of the document, with ordinary inputs, its edges and wrong inputs. */
public final class ScheduleCheckPromises {
    private static final int REFUSED = -1, NONE = -2, FULL = -3;
    private static final int[] ODD = {Integer.MIN_VALUE, -1000, -2, -1, 800, 801, 1000, Integer.MAX_VALUE};

    /** One thread that goes through exactly 800 states: 7 * (2 * 55 + 4) + 2. */
    private static final String STATES_800 = "var x; var y; thread { while (y < 7) { x = 0;"
        + " while (x < 55) { x = x + 1; } y = y + 1; } }";
    private static final String STATES_801 = STATES_800.substring(0, STATES_800.length() - 1) + "stop; }";

    public static void main(String[] args) {
        face();
        newObject();
        feed();
        end();
        check();
        count();
        first();
        look();
        value();
        arithmetic();
        local();
        place();
        owner();
        waits();
        next();
        outcome();
        race();
        raceOfWoken();
        oddArguments();
        Probe.finish("ScheduleCheckPromises");
    }

    private static void due(String what, int got, int want) {
        Probe.due(what, got, want);
    }

    private static void face() {
        due("REFUSED", ScheduleCheck.REFUSED, REFUSED);
        due("NONE", ScheduleCheck.NONE, NONE);
        due("FULL", ScheduleCheck.FULL, FULL);
        due("final", Modifier.isFinal(ScheduleCheck.class.getModifiers()) ? 1 : 0, 1);
        Set<String> seen = new TreeSet<>();
        for (Method method : ScheduleCheck.class.getDeclaredMethods()) {
            if (!Modifier.isPrivate(method.getModifiers())) {
                seen.add(method.getName() + method.getParameterCount());
            }
        }
        for (Field field : ScheduleCheck.class.getDeclaredFields()) {
            if (!Modifier.isPrivate(field.getModifiers())) {
                seen.add(field.getName());
            }
        }
        for (Constructor<?> constructor : ScheduleCheck.class.getDeclaredConstructors()) {
            seen.add("new" + constructor.getParameterCount());
        }
        Set<String> face = new TreeSet<>(Set.of("REFUSED", "NONE", "FULL", "new0", "feed5", "end1"));
        face.addAll(Set.of("check0", "count1", "first1", "look2", "value2", "local3"));
        face.addAll(Set.of("place2", "owner2", "waits2", "next2", "outcome2", "race1"));
        due("face " + seen, seen.equals(face) ? 1 : 0, 1);
    }

    private static void holdsNothing(ScheduleCheck x) {
        for (int what = 0; what < 9; what++) {
            due("count of nothing", x.count(what), 0);
        }
        for (int what = 0; what < 3; what++) {
            due("first of nothing", x.first(what), NONE);
            due("outcome of nothing", x.outcome(0, what), 1000);
        }
        for (int what = 0; what < 5; what++) {
            due("look at nothing", x.look(0, what), NONE);
        }
        due("value of nothing", x.value(0, 0), 1000);
        due("local of nothing", x.local(0, 0, 0), 1000);
        due("place of nothing", x.place(0, 0), NONE);
        due("owner of nothing", x.owner(0, 0), NONE);
        due("waits of nothing", x.waits(0, 0), NONE);
        due("next of nothing", x.next(0, 0), NONE);
        due("race of nothing", x.race(0), NONE);
    }

    private static void newObject() {
        holdsNothing(new ScheduleCheck());
        ScheduleCheck x = new ScheduleCheck();
        due("a new tape", x.end(1), REFUSED);
        due("a new tape", x.end(0), 0);
        due("a new tape's fault", x.check(), 0);
        ScheduleCheck other = Probe.made("var x; thread { x = 1; }");
        holdsNothing(x);
        due("objects are their own", other.count(0), 2);
    }

    private static void feed() {
        ScheduleCheck x = new ScheduleCheck();
        // "thread{stop;}" comes in the right order only if the highest byte of each is first.
        due("feed", x.feed(0x74687265, 0x61647b73, 0x746f703b, 0x7d202020, 0x20202020), 20);
        due("check of bytes", x.check(), NONE);
        due("statements", x.count(8), 1);
        for (int i = 1; i <= 80; i++) {
            due("feed " + i, x.feed(-1, Integer.MIN_VALUE, 0, 5, Integer.MAX_VALUE), 20 * i);
        }
        due("feed too much", x.feed(0, 0, 0, 0, 0), FULL);
        due("feed too much again", x.feed(0, 0, 0, 0, 0), FULL);
        due("the tape is as it was", x.end(1600), 1600);
        due("cut", x.end(1581), 1581);
        due("one too much", x.feed(0, 0, 0, 0, 0), FULL);
        due("cut", x.end(1580), 1580);
        due("just enough", x.feed(0, 0, 0, 0, 0), 1600);
        due("byte 255 begins no token", x.check(), 0);
        due("empty again", x.feed(0, 0, 0, 0, 0), 20);
        due("cut", x.end(7), 7);
        due("behind a cut", x.feed(0, 0, 0, 0, 0), 27);
        ScheduleCheck y = new ScheduleCheck();
        // A text of all 1600 bytes: "thread {", blanks, "}".
        due("feed", y.feed(0x74687265, 0x6164207b, 0x20202020, 0x20202020, 0x20202020), 20);
        for (int i = 2; i < 80; i++) {
            y.feed(0x20202020, 0x0a0a0a0a, 0x20202020, 0x20202020, 0x20202020);
        }
        due("feed", y.feed(0x20202020, 0x20202020, 0x20202020, 0x20202020, 0x2020207d), 1600);
        due("check of 1600 bytes", y.check(), NONE);
        due("threads", y.count(5), 1);
    }

    private static void end() {
        ScheduleCheck x = new ScheduleCheck();
        due("end(1)", x.end(1), REFUSED);
        due("end(-1)", x.end(-1), REFUSED);
        due("end(0)", x.end(0), 0);
        x.feed(0x74687265, 0x6164207b, 0x7d7d7d7d, 0x7d7d7d7d, 0x7d7d7d7d);
        due("end(21)", x.end(21), REFUSED);
        due("end(min)", x.end(Integer.MIN_VALUE), REFUSED);
        due("end(max)", x.end(Integer.MAX_VALUE), REFUSED);
        due("end(20)", x.end(20), 20);
        due("end(9)", x.end(9), 9);
        due("end(10)", x.end(10), REFUSED);
        due("end(9)", x.end(9), 9);
        due("what is left", x.check(), NONE);
        due("end(1)", x.end(1), REFUSED);
        x.feed(0, 0, 0, 0, 0);
        due("end(0)", x.end(0), 0);
        due("nothing is left", x.check(), 0);
    }

    private static void check() {
        ScheduleCheck x = Probe.made("var x; lock m; thread { local a; take m; x = 3; } thread { }");
        due("empty behind a good text", x.end(1), REFUSED);
        due("fault", Probe.check(x, "var x; thread { x = 1 }"), 22);
        due("empty behind a fault", x.end(1), REFUSED);
        int[] kept = {3, 2, 1, 0, 0, 2, 1, 1, 2};
        for (int what = 0; what < kept.length; what++) {
            due("kept count " + what, x.count(what), kept[what]);
        }
        due("kept place", x.place(1, 0), 1);
        due("kept owner", x.owner(1, 0), 0);
        due("kept value", x.value(2, 0), 3);
        due("kept local", x.local(0, 0, 0), 0);
        due("kept step", x.next(1, 0), 2);
        due("kept outcome", x.outcome(0, 1), 3);
        due("full", Probe.check(x, STATES_801), FULL);
        due("empty behind a full one", x.end(1), REFUSED);
        holdsNothing(x);
        due("fault behind a full one", Probe.check(x, "var"), 3);
        holdsNothing(x);
        due("800 states", Probe.check(x, STATES_800), NONE);
        due("800 states", x.count(0), 800);
        due("the last one", x.look(799, 0), 799);
        due("one too far", x.look(800, 0), NONE);
        due("the end", x.first(0), 799);
        due("y", x.value(799, 1), 7);
        String[] grid = {"x=x;".repeat(7), "x=x;".repeat(9), "x=x;".repeat(9)};
        String threads = "thread{" + grid[0] + "} thread{" + grid[1] + "} thread{" + grid[2] + "}";
        due("a grid of 800", Probe.check(x, "var x;" + threads), NONE);
        due("a grid of 800", x.count(0), 800);
        due("pairs of a grid", x.count(1), 7 * 100 + 2 * 8 * 9 * 10);
        due("a greater grid", Probe.check(x, "var x;" + threads + "thread{x=x;}"), FULL);
        holdsNothing(x);
    }

    private static void count() {
        ScheduleCheck x = Probe.made("var a; var b; lock m; thread { a = 1; } thread { assert b; } thread { }");
        // a = 1 and the assert in any order, but nothing behind the error.
        int[] counts = {4, 3, 0, 0, 2, 3, 2, 1, 2};
        for (int what = 0; what < counts.length; what++) {
            due("count " + what, x.count(what), counts[what]);
        }
        due("count -1", x.count(-1), REFUSED);
        due("count 9", x.count(9), REFUSED);
        due("count min", x.count(Integer.MIN_VALUE), REFUSED);
        x = Probe.made("thread { while (1) { } } thread { while (1) { } }");
        due("a state that leads to itself", x.count(0), 1);
        due("a pair counts once", x.count(1), 1);
        due("no end", x.count(2), 0);
        due("no deadlock", x.count(3), 0);
        x = Probe.made("lock m; thread { take m; take m; }");
        due("a thread waits for itself", x.count(3), 1);
        due("which is no end", x.count(2), 0);
        x = Probe.made("thread { } thread { }");
        due("an end at first", x.count(2), 1);
        due("no pairs", x.count(1), 0);
        due("no statements", x.count(8), 0);
    }

    private static void first() {
        ScheduleCheck x = Probe.made("lock m; lock n; thread { take m; take n; } thread { take n; take m; assert 0; }");
        due("an end", x.first(0), NONE);
        // In state 3 thread 0 has ended with both locks; in state 4 each thread has one.
        due("a deadlock", x.first(1), 3);
        due("deadlocks", x.count(3), 2);
        due("places", x.place(4, 0) * 10 + x.place(4, 1), 13);
        due("an error", x.first(2), 6);
        due("its kind", x.look(x.first(2), 3), 1);
        due("first 3", x.first(3), REFUSED);
        due("first -1", x.first(-1), REFUSED);
        due("first 3 of nothing", new ScheduleCheck().first(3), REFUSED);
        x = Probe.made("thread { }");
        due("state 0 is an end", x.first(0), 0);
        x = Probe.made("lock m; thread { wait m; }");
        due("an error is no deadlock", x.first(1), NONE);
        due("an error", x.first(2), 1);
    }

    private static void look() {
        ScheduleCheck x = Probe.made("var a; lock m; thread { a = 1; a = 0; } thread { give m; }");
        // 0 -t0-> 1, 0 -t1-> 2 (error), 1 -t0-> 3, 1 -t1-> 4 (error), 3 -t1-> 5 (error)
        int[][] looks = {{0, -1, -1, 0, -1}, {1, 0, 0, 0, -1}, {1, 1, 0, 2, 1}, {2, 0, 1, 0, -1}, {2, 1, 1, 2, 1}, {3, 1, 3, 2, 1}};
        for (int state = 0; state < looks.length; state++) {
            for (int what = 0; what < 5; what++) {
                due("look " + state + " " + what, x.look(state, what), looks[state][what]);
            }
        }
        due("states", x.count(0), looks.length);
        due("no such state", x.look(6, 0), NONE);
        due("no such state", x.look(-1, 4), NONE);
        due("no such what", x.look(0, 5), REFUSED);
        due("no such what", x.look(0, -1), REFUSED);
        due("no such what nor state", x.look(6, 5), REFUSED);
        due("no such what nor state", new ScheduleCheck().look(-1, -1), REFUSED);
        due("an error has no steps", x.next(2, 0), NONE);
        due("an error keeps its place", x.place(2, 1), 2);
        x = Probe.made("thread { assert 0; } thread { assert 0; }");
        due("errors of two threads are two", x.count(0), 3);
        due("thread of the first", x.look(1, 4), 0);
        due("thread of the second", x.look(2, 4), 1);
        due("kind of an assert", x.look(2, 3), 1);
        // State 3 is come to by two ways; the way in which it was found counts.
        x = Probe.made("var a; var b; thread { a = 1; } thread { b = 1; }");
        due("found first from", x.look(3, 2), 1);
        due("found first by", x.look(3, 1), 1);
    }

    private static void value() {
        ScheduleCheck x = Probe.made("var a = 5; var b = -127; var c; thread { c = a + b; }");
        due("a", x.value(0, 0), 5);
        due("b", x.value(0, 1), -127);
        due("c", x.value(0, 2), 0);
        due("c then", x.value(1, 2), -122);
        due("no such variable", x.value(0, 3), 1000);
        due("no such variable", x.value(0, -1), 1000);
        due("no such state", x.value(2, 0), 1000);
        due("no such state", x.value(-1, 0), 1000);
        x = Probe.made("thread { local a; a = 7; }");
        due("a local is no variable", x.value(1, 0), 1000);
    }

    private static void is(String expression, int want) {
        ScheduleCheck x = Probe.made("var a = 2; var b = 3; var n = -127; var r; thread { r = " + expression + "; }");
        due(expression, x.value(1, 3), want);
    }

    private static void arithmetic() {
        is("127 + 1", -128);
        is("n - 1", -128);
        is("n - a", 127);
        is("-(n - 1)", -128);
        is("- -127", 127);
        is("64 * 2", -128);
        is("16 * 16", 0);
        is("100 * 100", 16);
        is("n * n", 1);
        is("a - b - 1", -2);
        is("a - (b - 1)", 0);
        is("a + b * a", 8);
        is("(a + b) * a", 10);
        is("-a * b", -6);
        is("a*-b", -6);
        is("a--b", 5);
        is("!a", 0);
        is("!0", 1);
        is("!!b", 1);
        is("!a == 0", 1);
        is("!a + 1", 1);
        is("-!0", -1);
        is("a < b", 1);
        is("b < a", 0);
        is("a < a", 0);
        is("a <= a", 1);
        is("a > b", 0);
        is("a >= a", 1);
        is("b >= a", 1);
        is("n < 0", 1);
        is("127 + 1 < 0", 1);
        is("n - a > 0", 1);
        is("-(n - 1) < 0", 1);
        is("64 * 2 < 0", 1);
        is("a == 2", 1);
        is("a != 2", 0);
        is("a + 1 == b", 1);
        is("a && b", 1);
        is("a && 0", 0);
        is("0 || n", 1);
        is("0 || 0", 0);
        is("1 || 0 && 0", 1);
        is("(1 || 0) && 0", 0);
        is("a == 2 && b == 3", 1);
        is("a == (2 && b)", 0);
        is("000127", 127);
    }

    private static void local() {
        ScheduleCheck x = Probe.made("var a = 9; thread { local b; local a; a = a + 1; b = a - 2; } thread { local c; c = a; }");
        due("a hidden variable", x.local(1, 0, 1), 1);
        due("the variable itself", x.value(1, 0), 9);
        due("the other thread sees it", x.local(2, 1, 0), 9);
        int last = x.first(0);
        due("b at the end", x.local(last, 0, 0), -1);
        due("a at the end", x.local(last, 0, 1), 1);
        due("c at the end", x.local(last, 1, 0), 9);
        due("at first", x.local(0, 0, 0), 0);
        due("no such local", x.local(0, 0, 2), 1000);
        due("no such local", x.local(0, 1, 1), 1000);
        due("no such local", x.local(0, 0, -1), 1000);
        due("no such thread", x.local(0, 2, 0), 1000);
        due("no such thread", x.local(0, -1, 0), 1000);
        due("no such state", x.local(x.count(0), 0, 0), 1000);
        due("no such state", x.local(-1, 0, 0), 1000);
    }

    /** The places of thread 0 along the only way of a program. */
    private static void goes(String text, int... places) {
        ScheduleCheck x = Probe.made(text);
        int state = 0;
        for (int i = 0; i < places.length; i++) {
            due("place " + i + " of " + text, x.place(state, 0), places[i]);
            state = x.next(state, 0);
        }
        due("no more of " + text, state, NONE);
    }

    private static void place() {
        goes("thread { }", -1);
        goes("thread { if (1) { } }", 0, -1);
        goes("thread { if (1) { } else { stop; } }", 0, -1);
        goes("thread { if (0) { stop; } else { } assert 1; }", 0, 2, -1);
        goes("thread { if (0) { stop; } assert 1; }", 0, 2, -1);
        goes("thread { if (0) { assert 1; } else { assert 2; } assert 3; }", 0, 2, 3, -1);
        goes("thread { if (5) { assert 1; } else { assert 2; } assert 3; }", 0, 1, 3, -1);
        goes("thread { if (1) { if (1) { if (1) { assert 1; } } } assert 1; }", 0, 1, 2, 3, 4, -1);
        goes("thread { assert 1; stop; assert 0; }", 0, 1, -1);
        goes("thread { while (0) { stop; } }", 0, -1);
        goes("var x; thread { while (x < 2) { x = x + 1; } }", 0, 1, 0, 1, 0, -1);
        goes("var x; thread { while (x < 1) { if (1) { x = 1; } else { } } assert x; }", 0, 1, 2, 0, 3, -1);
        goes("var x; thread { while (x < 1) { x = 1; if (0) { stop; } } assert x; }", 0, 1, 2, 0, 4, -1);
        goes("var x; thread { while (x < 1) { if (x) { stop; } else { while (x == 0) { x = 1; } } } }",
            0, 1, 3, 4, 3, 0, -1);
        goes("thread { while (1) { stop; } assert 0; }", 0, 1, -1);
        ScheduleCheck x = Probe.made("thread { stop; stop; } thread { stop; } thread { }");
        due("numbered through", x.place(0, 1), 2);
        due("ended at first", x.place(0, 2), -1);
        due("no such thread", x.place(0, 3), NONE);
        due("no such thread", x.place(0, -1), NONE);
        due("no such state", x.place(x.count(0), 0), NONE);
        due("no such state", x.place(-1, 0), NONE);
        x = Probe.made("thread { while (1) { } }");
        due("an empty while goes to itself", x.next(0, 0), 0);
    }

    private static void owner() {
        ScheduleCheck x = Probe.made("lock m; lock n; thread { take n; take m; give n; give n; }");
        int[][] owners = {{-1, -1}, {-1, 0}, {0, 0}, {0, -1}, {0, -1}};
        for (int state = 0; state < owners.length; state++) {
            due("owner of m in " + state, x.owner(state, 0), owners[state][0]);
            due("owner of n in " + state, x.owner(state, 1), owners[state][1]);
        }
        due("give of what is not owned", x.look(4, 3), 2);
        due("states", x.count(0), 5);
        due("no such lock", x.owner(0, 2), NONE);
        due("no such lock", x.owner(0, -1), NONE);
        due("no such state", x.owner(5, 0), NONE);
        due("no such state", x.owner(-1, 0), NONE);
        x = Probe.made("lock m; thread { take m; } thread { take m; }");
        due("an ended owner keeps it", x.owner(1, 0) * 10 + x.place(1, 0), -1);
        due("the other is stuck", x.first(1), 1);
        due("deadlocks", x.count(3), 2);
        x = Probe.made("lock m; thread { take m; stop; } thread { give m; }");
        due("give of another's", x.look(x.next(1, 1), 3), 2);
        for (String use : new String[] {"give m", "wait m", "wake m", "wake all m"}) {
            x = Probe.made("lock m; thread { " + use + "; }");
            due(use, x.look(1, 3), 2);
            due(use + " does nothing else", x.place(1, 0) * 100 + x.owner(1, 0) * 10 + x.waits(1, 0), -10);
            due(use + " leads nowhere", x.next(1, 0), NONE);
        }
    }

    private static void waits() {
        ScheduleCheck x = Probe.made("lock m; thread { take m; wait m; stop; } thread { take m; wake m; give m; }");
        int waiting = x.next(x.next(0, 0), 0);
        due("waits", x.waits(waiting, 0), 1);
        due("its place", x.place(waiting, 0), 1);
        due("nobody owns it", x.owner(waiting, 0), -1);
        int taken = x.next(waiting, 0);
        due("only the other goes on", x.look(taken, 1), 1);
        due("one step", x.next(waiting, 1), NONE);
        int woken = x.next(taken, 0);
        due("woken", x.waits(woken, 0), 2);
        due("its place", x.place(woken, 0), 1);
        due("it can't go on yet", x.next(woken, 1), NONE);
        int given = x.next(woken, 0);
        due("still woken", x.waits(given, 0), 2);
        int again = x.next(given, 0);
        due("waits no more", x.waits(again, 0), 0);
        due("owns it again", x.owner(again, 0), 0);
        due("behind the wait", x.place(again, 0), 2);
        due("the other has ended", x.place(again, 1), -1);
        due("no such thread", x.waits(0, 2), NONE);
        due("no such thread", x.waits(0, -1), NONE);
        due("no such state", x.waits(x.count(0), 0), NONE);
        due("no such state", x.waits(-1, 0), NONE);
        due("a lost wake is a deadlock", x.count(3), 1);
        x = Probe.made("lock m; lock n; thread { take m; wait m; } thread { take n; wake n; wake all n; }");
        due("a wake is for one lock", x.count(2), 0);
        wakes();
    }

    /** Three wait before the last thread comes to its wake. */
    private static void wakes() {
        String wait = "thread { take m; n = n + 1; wait m; give m; } ";
        String text = "var n; lock m; " + wait + wait + wait + "thread { take m; if (n == 3) { WAKE m; } give m; }";
        ScheduleCheck x = Probe.made(text.replace("WAKE", "wake"));
        int before = stateAt(x, 3, 14, 1);
        int[] next = {x.next(before, 0), x.next(before, 1), x.next(before, 2)};
        for (int i = 0; i < 3; i++) {
            for (int thread = 0; thread < 3; thread++) {
                due("woken one " + i, x.waits(next[i], thread), thread == i ? 2 : 1);
            }
            due("behind the wake", x.place(next[i], 3), 15);
            due("by", x.look(next[i], 1), 3);
        }
        due("in the order of threads", next[1] - next[0] + next[2] - next[1], 2);
        due("no more", x.next(before, 3), NONE);
        due("no end", x.count(2), 0);
        x = Probe.made(text.replace("WAKE", "wake all"));
        before = stateAt(x, 3, 14, 1);
        for (int thread = 0; thread < 3; thread++) {
            due("woken all", x.waits(x.next(before, 0), thread), 2);
        }
        due("one step", x.next(before, 1), NONE);
        due("an end", x.count(2), 1);
        x = Probe.made("lock m; thread { take m; wake m; wake all m; }");
        due("a wake of none goes on", x.place(2, 0), 2);
        due("a wake of all of none goes on", x.place(3, 0), -1);
        due("to an end", x.first(0), 3);
    }

    /** The least state in which a thread is at a place and thread 0 waits in a way. */
    private static int stateAt(ScheduleCheck x, int thread, int place, int waits) {
        for (int state = 0; state < x.count(0); state++) {
            if (x.place(state, thread) == place && x.waits(state, 0) == waits) {
                return state;
            }
        }
        return NONE;
    }

    private static void next() {
        ScheduleCheck x = Probe.made("thread { while (1) { } } thread { while (1) { } } thread { stop; }");
        due("to itself", x.next(0, 0), 0);
        due("to itself by another", x.next(0, 1), 0);
        due("by the last", x.next(0, 2), 1);
        due("no more", x.next(0, 3), NONE);
        due("before", x.next(0, -1), NONE);
        due("no such state", x.next(2, 0), NONE);
        due("no such state", x.next(-1, 0), NONE);
        due("pairs", x.count(1), 3);
        x = Probe.made("var a; thread { stop; } thread { a = 1; } thread { a = a; } thread { assert a; }");
        due("first", x.next(0, 0), 1);
        due("second", x.next(0, 1), 2);
        due("third", x.next(0, 2), 3);
        due("fourth", x.next(0, 3), 4);
        due("fifth", x.next(0, 4), NONE);
        due("the fourth is an error", x.look(4, 3), 1);
    }

    private static void outcome() {
        ScheduleCheck x = Probe.made("var x; var y = -3; thread { local a; a = x; x = a + 1; } thread { local a; a = x; x = a + 1; }");
        due("least", x.outcome(0, 0), 1);
        due("greatest", x.outcome(0, 1), 2);
        due("different", x.outcome(0, 2), 2);
        due("least of y", x.outcome(1, 0), -3);
        due("greatest of y", x.outcome(1, 1), -3);
        due("different of y", x.outcome(1, 2), 1);
        due("no such what", x.outcome(0, 3), 1000);
        due("no such what", x.outcome(0, -1), 1000);
        due("no such variable", x.outcome(2, 0), 1000);
        due("no such variable", x.outcome(-1, 2), 1000);
        x = Probe.made("var x; thread { x = 1; assert 0; } thread { x = 2; }");
        for (int what = 0; what < 3; what++) {
            due("no end", x.outcome(0, what), 1000);
        }
        x = Probe.made("var x; thread { x = -127 - 1; } thread { x = 127; }");
        due("the least value", x.outcome(0, 0), -128);
        due("the greatest value", x.outcome(0, 1), 127);
        due("both", x.outcome(0, 2), 2);
    }

    private static void race() {
        due("write, write", Probe.made("var x; thread { x = 1; } thread { x = 2; }").race(0), 0);
        due("write, read", Probe.made("var x; thread { x = 1; } thread { local a; a = x; }").race(0), 0);
        due("read, write", Probe.made("var x; thread { assert 1 - x; } thread { x = 2; }").race(0), 0);
        due("if", Probe.made("var x; thread { if (x) { } } thread { x = 2; }").race(0), 0);
        due("while", Probe.made("var x; thread { x = 2; } thread { while (0 && x) { } }").race(0), 0);
        due("a block is no part of its if", Probe.made("var x; thread { if (0) { x = 1; } } thread { x = 2; }").race(0), NONE);
        due("read, read", Probe.made("var x; thread { if (x) { } } thread { assert !x; }").race(0), NONE);
        due("one thread", Probe.made("var x; thread { x = x + 1; }").race(0), NONE);
        due("hidden", Probe.made("var x; thread { local x; x = 1; } thread { x = 2; }").race(0), NONE);
        due("others", Probe.made("var x; var y; thread { x = 1; } thread { y = 2; }").race(0), NONE);
        ScheduleCheck x = Probe.made("var x; var y; thread { y = 1; x = y; } thread { y = y; x = x; }");
        due("y", x.race(1), 0);
        due("x", x.race(0), x.next(x.next(0, 0), 1));
        due("no such variable", x.race(2), NONE);
        due("no such variable", x.race(-1), NONE);
        String body = "take m; x = x + 1; give m; ";
        x = Probe.made("var x; lock m; thread { " + body + "} thread { " + body + "}");
        due("guarded", x.race(0), NONE);
        due("behind an assert", Probe.made("var x; thread { assert 0; x = 1; } thread { x = 2; }").race(0), NONE);
    }

    private static void raceOfWoken() {
        String text = "var x; lock m; thread { take m; wait m; x = 1; } thread { take m; wake m; give m; x = 2; }";
        ScheduleCheck x = Probe.made(text);
        int race = x.race(0);
        due("thread 0 is behind its wait", x.place(race, 0), 2);
        due("thread 1 is at its write", x.place(race, 1), 6);
        due("not before", x.waits(race, 0), 0);
    }

    /** No call throws, and whatever is not there is answered as the document says. */
    private static void oddArguments() {
        ScheduleCheck x = Probe.made("var x; lock m; thread { local a; a = x; take m; }");
        for (int odd : ODD) {
            due("count", x.count(odd), REFUSED);
            due("first", x.first(odd), REFUSED);
            due("look", x.look(odd, 0), NONE);
            due("look", x.look(0, odd), REFUSED);
            due("value", x.value(odd, 0), 1000);
            due("value", x.value(0, odd), 1000);
            due("local", x.local(odd, 0, 0), 1000);
            due("local", x.local(0, odd, 0), 1000);
            due("local", x.local(0, 0, odd), 1000);
            due("place", x.place(odd, 0), NONE);
            due("place", x.place(0, odd), NONE);
            due("owner", x.owner(odd, 0), NONE);
            due("owner", x.owner(0, odd), NONE);
            due("waits", x.waits(odd, 0), NONE);
            due("waits", x.waits(0, odd), NONE);
            due("next", x.next(odd, 0), NONE);
            due("next", x.next(0, odd), NONE);
            due("outcome", x.outcome(odd, 0), 1000);
            due("outcome", x.outcome(0, odd), 1000);
            due("race", x.race(odd), NONE);
            due("end", x.end(odd), REFUSED);
        }
    }
}
