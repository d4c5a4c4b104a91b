/**
 * The terms of the document that tell of the tape, of values, states and steps, and the sentence on
 * an object's calls; those that tell of texts are in ScheduleCheckGrammar.
 */
public final class ScheduleCheckTerms {
    private static final int REFUSED = -1, NONE = -2, FULL = -3;
    private static final int[] EDGES = {-128, -127, -126, -65, -64, -63, -16, -2, -1, 0, 1, 2, 3, 16, 63, 64, 65, 126, 127};

    public static void main(String[] args) {
        lastCall();
        manyFeeds();
        manyChecks();
        tape();
        tapeIsRead();
        valuesWrap();
        valuesTrue();
        valuesCompare();
        valuesKept();
        widestStates();
        firstState();
        ready();
        readyWoken();
        assign();
        takeAndGive();
        waitAndWoken();
        wakeOne();
        wakeOthers();
        wakeAll();
        lockErrors();
        lockErrorsChangeNothing();
        assertError();
        conditions();
        stop();
        behindAllElse();
        noStepsFromErrors();
        deadlock();
        end();
        numbered();
        numberedWakes();
        sameStates();
        Probe.finish("ScheduleCheckTerms");
    }

    private static void due(String what, int got, int want) {
        Probe.due(what, got, want);
    }

    private static void append(StringBuilder row, char sort, StringBuilder items) {
        if (items.length() > 0) {
            row.append(row.length() > 0 ? " " : "").append(sort).append(items.substring(1));
        }
    }

    private static void item(StringBuilder items, int one) {
        items.append(',').append(one == -1 ? "-" : Integer.toString(one));
    }

    /**
     * All that is told of a state: v its variables, o owners, p places, w waits unless all are 0,
     * l locals of all threads, e kind and thread of its error; and behind '>' where its steps lead.
     */
    private static String shown(Subject x, int state) {
        StringBuilder row = new StringBuilder();
        StringBuilder items = new StringBuilder();
        for (int v = 0; x.value(state, v) != 1000; v++) {
            items.append(',').append(x.value(state, v));
        }
        append(row, 'v', items);
        items.setLength(0);
        for (int lock = 0; x.owner(state, lock) != NONE; lock++) {
            item(items, x.owner(state, lock));
        }
        append(row, 'o', items);
        items.setLength(0);
        StringBuilder waits = new StringBuilder();
        StringBuilder locals = new StringBuilder();
        boolean isWaiting = false;
        for (int thread = 0; x.place(state, thread) != NONE; thread++) {
            item(items, x.place(state, thread));
            int wait = x.waits(state, thread);
            isWaiting |= wait != 0;
            item(waits, wait);
            for (int k = 0; x.local(state, thread, k) != 1000; k++) {
                locals.append(',').append(x.local(state, thread, k));
            }
        }
        append(row, 'p', items);
        append(row, 'w', isWaiting ? waits : new StringBuilder());
        append(row, 'l', locals);
        if (x.look(state, 3) != 0 || x.look(state, 4) != -1) {
            row.append(" e").append(x.look(state, 3)).append(':').append(x.look(state, 4));
        }
        row.append(" >");
        for (int k = 0; x.next(state, k) != NONE; k++) {
            row.append(' ').append(x.next(state, k));
        }
        return row.toString();
    }

    private static void isShown(Subject x, int state, String want) {
        String got = shown(x, state);
        Probe.holds("state " + state + " is " + got + ", due is " + want + ": this", got.equals(want));
    }

    /** All states of a program, by their numbers. */
    private static void graph(String text, String... rows) {
        due("states of " + text, Subject.made(text).count(0), rows.length);
        for (int state = 0; state < rows.length; state++) {
            isShown(Subject.made(text), state, rows[state]);
        }
    }

    /** Where the steps of threads lead, one behind the other, each the first that the thread has. */
    private static int walk(Subject x, int from, int... threads) {
        int state = from;
        for (int thread : threads) {
            state = step(x, state, thread);
        }
        return state;
    }

    /** The first state that a step leads to in which a thread has gone on. */
    private static int step(Subject x, int state, int thread) {
        for (int k = 0; x.next(state, k) != NONE; k++) {
            int next = x.next(state, k);
            boolean moved = x.place(next, thread) != x.place(state, thread);
            if (moved || x.waits(next, thread) == 1 && x.waits(state, thread) == 0 || x.look(next, 4) == thread) {
                return next;
            }
        }
        throw new IllegalStateException("thread " + thread + " has no step from " + state);
    }

    private static int steps(Subject x, int state) {
        int k = 0;
        while (x.next(state, k) != NONE) {
            k++;
        }
        return k;
    }

    private static Subject used(String text, int calls) {
        Subject x = Subject.made(text);
        while (x.calls() < calls) {
            x.count(x.calls() % 9);
        }
        return x;
    }

    private static void lastCall() {
        Probe.sentence("An object is used for at most 512 calls after it has been made");
        String text = "var x; lock m; thread { local a; a = 7; take m; x = a; wait m; } thread { x = 2; }";
        due("512th call: feed", used(text, 511).feed(' '), 20);
        due("512th call: end", used(text, 511).end(0), 0);
        due("512th call: end", used(text, 511).end(1), REFUSED);
        due("512th call: check", used(text, 511).check(), 0);
        due("512th call: count", used(text, 511).count(8), 5);
        due("512th call: count", used(text, 511).count(9), REFUSED);
        due("512th call: first", used(text, 511).first(2), NONE);
        due("512th call: look", used(text, 511).look(1, 2), 0);
        due("512th call: value", used(text, 511).value(2, 0), 2);
        due("512th call: local", used(text, 511).local(1, 0, 0), 7);
        due("512th call: place", used(text, 511).place(0, 1), 4);
        due("512th call: owner", used(text, 511).owner(0, 0), -1);
        due("512th call: waits", used(text, 511).waits(0, 1), 0);
        due("512th call: next", used(text, 511).next(0, 1), 2);
        due("512th call: outcome", used(text, 511).outcome(0, 0), 1000);
        due("512th call: race", used(text, 511).race(0) >= 0 ? 1 : 0, 1);
        String other = "var y = 5; thread { y = 6; }";
        Subject x = used(text, 512 - Subject.callsToCheck(other) - 1);
        due("511th call: check", x.check(other), NONE);
        due("512th call: value", x.value(1, 0), 6);
        due("calls", x.calls(), 512);
    }

    private static void manyFeeds() {
        Subject x = new Subject();
        x.feed(0x74687265, 0x61647b7d, 0x20202020, 0x20202020, 0x20202020);
        for (int i = 2; i <= 80; i++) {
            x.feed(' ');
        }
        while (x.calls() < 511) {
            due("feed " + (x.calls() + 1), x.feed('@'), FULL);
        }
        due("512th call: check", x.check(), NONE);
        Subject y = new Subject();
        while (y.calls() < 512) {
            due("check of nothing " + y.calls(), y.check(), 0);
        }
    }

    private static void manyChecks() {
        String row = "x=x;";
        String rest = "}thread{" + row.repeat(9) + "}thread{" + row.repeat(9) + "}";
        String most = "var x;thread{" + row.repeat(7) + rest;
        String more = "var x;thread{" + row.repeat(8) + rest;
        Subject x = new Subject();
        int round = 0;
        while (x.hasRoomFor(Subject.callsToCheck(more) + 1)) {
            due("check", x.check(round % 3 == 2 ? more : most), round % 3 == 2 ? FULL : NONE);
            due("states", x.count(0), round % 3 == 2 ? 0 : 800);
            round++;
        }
        Probe.holds("rounds", round > 20);
        Subject y = new Subject();
        while (y.hasRoomFor(Subject.callsToCheck(most) + 3)) {
            due("check", y.check(most), NONE);
            due("pairs", y.count(1), 7 * 100 + 2 * 8 * 9 * 10);
            due("the last step", y.next(798, 0), 799);
            due("no step", y.next(799, 0), NONE);
        }
        String atoms = "var r; thread { r = 1" + "+1".repeat(149) + "; }";
        Subject z = new Subject();
        while (z.hasRoomFor(Subject.callsToCheck(atoms) + 1)) {
            due("check of 150 ATOMS", z.check(atoms), NONE);
            due("their sum", z.value(1, 0), 150 - 256);
        }
    }

    private static void tape() {
        Probe.sentence("THE TAPE has bytes, none at first, at most 1600");
        due("no byte", new Subject().end(1), REFUSED);
        due("none", new Subject().end(0), 0);
        due("the end of nothing", new Subject().check(), 0);
        due("the first ones", new Subject().feed(' '), 20);
        Subject x = new Subject();
        for (int i = 1; i <= 79; i++) {
            x.feed(' ');
        }
        due("1600", x.feed(' '), 1600);
        due("no more", x.feed(' '), FULL);
        due("all are read", x.check(), 1600);
        // Each byte may be a token of its own.
        for (char one : new char[] {';', '(', '{', '-', '@'}) {
            for (int length = 1597; length <= 1600; length++) {
                due("tokens " + one, new Subject().check(("" + one).repeat(length)), 0);
            }
        }
        due("a name at the last", new Subject().check(";".repeat(1599) + "x"), 0);
        due("a number at the last", new Subject().check(";".repeat(1599) + "1"), 0);
        String most = "thread{}".repeat(4);
        due("tokens behind", new Subject().check(most + ";".repeat(1600 - most.length())), most.length());
    }

    /** Calls that only ask for what stands. */
    private static void askAll(Subject x) {
        x.count(0);
        x.count(9);
        x.first(0);
        x.first(3);
        x.look(0, 0);
        x.look(0, 5);
        x.value(0, 0);
        x.local(0, 0, 0);
        x.place(0, 0);
        x.owner(0, 0);
        x.waits(0, 0);
        x.next(0, 0);
        x.outcome(0, 0);
        x.race(0);
    }

    private static void tapeIsRead() {
        Probe.sentence("calls that read it empty it.");
        String[] texts = {"thread { }", "thread", "thread { } @", "", "var x; thread { while (1) { x = x + 1; } } thread { while (1) { x = x + 1; } }"};
        int[] dues = {NONE, 6, 11, 0, FULL};
        for (int i = 0; i < texts.length; i++) {
            Subject x = new Subject();
            due("check of " + texts[i], x.check(texts[i]), dues[i]);
            due("nothing is left", x.end(1), REFUSED);
            due("nothing is left", x.end(0), 0);
            due("check of nothing", x.check(), 0);
            due("the first ones again", x.feed('@'), 20);
            due("they are the first", x.check(), 0);
            due("another text", x.check("thread { stop; }"), NONE);
            due("its statements", x.count(8), 1);
        }
        Subject x = Subject.made("var x; lock m; thread { local a; x = 1; }");
        x.write(0, "thread { stop; ");
        askAll(x);
        due("the others do not read it", x.end(16), REFUSED);
        due("the others do not read it", x.end(15), 15);
        x.write(15, "stop; }");
        askAll(x);
        due("check", x.check(), NONE);
        due("its statements", x.count(8), 2);
    }

    /** A value as it is written; there is no number -128. */
    private static String written(int value) {
        return value == -128 ? "(-127-1)" : Integer.toString(value);
    }

    private static void is(String expression, int want) {
        Subject x = Subject.made("var r = 99; thread { r = " + expression + "; }");
        due(expression, x.value(1, 0), want);
    }

    private static void valuesWrap() {
        Probe.sentence("VALUES: -128 to 127; + - * and - wrap (8 bits).");
        for (int a : EDGES) {
            is(written(a), a);
            is("-" + written(a), (byte) -a);
            for (int b : EDGES) {
                is(written(a) + "+" + written(b), (byte) (a + b));
                is(written(a) + "-" + written(b), (byte) (a - b));
                is(written(a) + "*" + written(b), (byte) (a * b));
            }
        }
        is("126 + 1", 127);
        is("127 + 1", -128);
        is("-127 - 1", -128);
        is("-127 - 2", 127);
        is("-(-127 - 1)", -128);
        is("63 * 2 + 1", 127);
        is("64 * 2", -128);
        is("16 * 16", 0);
        is("100 * 100", 16);
        is("127 + 127 + 127 + 127", -4);
        is("127 * 127 * 127", 127);
        is("(127 + 1) * 2", 0);
        // What has wrapped is compared, not what it was before.
        is("127 + 1 < 0", 1);
        is("-127 - 2 > 0", 1);
        is("-(-127 - 1) < 0", 1);
        is("64 * 2 < 0", 1);
        is("64 * 4 == 0", 1);
        is("(127 + 1) - 1 == 127", 1);
        is("!(16 * 16)", 1);
        is("16 * 16 || 0", 0);
    }

    private static void valuesTrue() {
        Probe.sentence("A value is TRUE if it is not 0");
        for (int a : EDGES) {
            String value = written(a);
            int bit = a != 0 ? 1 : 0;
            due("if " + a, Subject.made("thread { if (" + value + ") { stop; } else { stop; } }").place(1, 0), 2 - bit);
            due("while " + a, Subject.made("thread { while (" + value + ") { stop; } stop; }").place(1, 0), 2 - bit);
            due("assert " + a, Subject.made("thread { assert " + value + "; }").look(1, 3), 1 - bit);
            is("!" + value, 1 - bit);
            is("!!" + value, bit);
            is(value + " && 1", bit);
            is("1 && " + value, bit);
            is(value + " || 0", bit);
            is("0 || " + value, bit);
        }
    }

    private static void valuesCompare() {
        Probe.sentence("== and the others, &&, ||, ! give 1 or 0.");
        for (int a : EDGES) {
            for (int b : EDGES) {
                is(written(a) + "==" + written(b), a == b ? 1 : 0);
                is(written(a) + "!=" + written(b), a != b ? 1 : 0);
                is(written(a) + "<" + written(b), a < b ? 1 : 0);
                is(written(a) + "<=" + written(b), a <= b ? 1 : 0);
                is(written(a) + ">" + written(b), a > b ? 1 : 0);
                is(written(a) + ">=" + written(b), a >= b ? 1 : 0);
                is(written(a) + "&&" + written(b), a != 0 && b != 0 ? 1 : 0);
                is(written(a) + "||" + written(b), a != 0 || b != 0 ? 1 : 0);
            }
        }
        is("(2 < 3) + (3 < 4)", 2);
        is("-(2 == 2)", -1);
        is("(2 && 4) * 100", 100);
        is("-!0", -1);
    }

    private static void valuesKept() {
        Probe.sentence("A STATE: the variables; of each lock its OWNER, a thread or none; of each thread its locals,"
            + " its PLACE: the statement that is next, or that it has ENDED; whether it WAITS for a lock (from a wait on)"
            + " or is WOKEN; or it is an ERROR.");
        graph("var x = 127; thread { local a; a = -127; a = a - 1; a = a - 1; x = x + 1; x = x + a; }",
            "v127 p0 l0 > 1", "v127 p1 l-127 > 2", "v127 p2 l-128 > 3", "v127 p3 l127 > 4", "v-128 p4 l127 > 5", "v-1 p- l127 >");
        graph("var x; lock m; thread { local a; take m; a = 3; wait m; x = a; } thread { local b; take m; b = 4; wake m; give m; }",
            "v0 o- p0,4 l0,0 > 1 2", "v0 o0 p1,4 l0,0 > 3", "v0 o1 p0,5 l0,0 > 4", "v0 o0 p2,4 l3,0 > 5", "v0 o1 p0,6 l0,4 > 6",
            "v0 o- p2,4 w1,0 l3,0 > 7", "v0 o1 p0,7 l0,4 > 8", "v0 o1 p2,5 w1,0 l3,0 > 9", "v0 o- p0,- l0,4 > 10",
            "v0 o1 p2,6 w1,0 l3,4 > 11", "v0 o0 p1,- l0,4 > 12", "v0 o1 p2,7 w2,0 l3,4 > 13", "v0 o0 p2,- l3,4 > 14",
            "v0 o- p2,- w2,0 l3,4 > 15", "v0 o- p2,- w1,0 l3,4 >", "v0 o0 p3,- l3,4 > 16", "v3 o0 p-,- l3,4 >");
        graph("var x = 2; lock m; thread { local a; take m; a = x; assert a == 3; }",
            "v2 o- p0 l0 > 1", "v2 o0 p1 l0 > 2", "v2 o0 p2 l2 > 3", "v2 o0 p2 l2 e1:0 >");
    }

    /**
     * Eight variables, four locks, and four threads with three locals that go their own ways, so that
     * the places tell all that is due: 5 * 5 * 5 * 5 states.
     */
    private static void widestStates() {
        StringBuilder text = new StringBuilder();
        for (int i = 0; i < 8; i++) {
            text.append("var v").append(i).append(" = ").append(10 + i).append("; ");
        }
        text.append("lock k0; lock k1; lock k2; lock k3; ");
        for (int t = 0; t < 4; t++) {
            text.append("thread { local a; local b; local c; a = ").append(t + 1).append("; c = a + 4; take k").append(t);
            text.append("; v").append(2 * t + 1).append(" = c * 2; } ");
        }
        Subject x = Subject.made(text.toString());
        int[] counts = {625, 4 * 4 * 125, 1, 0, 0, 4, 8, 4, 16};
        for (int what = 0; what < counts.length; what++) {
            due("count " + what + " of the widest", x.count(what), counts[what]);
        }
        due("the end", x.first(0), 624);
        for (int state = 0; state < 625; state++) {
            if (!x.hasRoomFor(40)) {
                x = Subject.made(text.toString());
            }
            for (int t = 0; t < 4; t++) {
                int done = x.place(state, t) == -1 ? 4 : x.place(state, t) - 4 * t;
                due("v" + 2 * t + " in " + state, x.value(state, 2 * t), 10 + 2 * t);
                due("v" + (2 * t + 1) + " in " + state, x.value(state, 2 * t + 1), done < 4 ? 11 + 2 * t : 2 * (t + 5));
                due("a of " + t + " in " + state, x.local(state, t, 0), done < 1 ? 0 : t + 1);
                due("b of " + t + " in " + state, x.local(state, t, 1), 0);
                due("c of " + t + " in " + state, x.local(state, t, 2), done < 2 ? 0 : t + 5);
                due("owner of k" + t + " in " + state, x.owner(state, t), done < 3 ? -1 : t);
                due("waits of " + t + " in " + state, x.waits(state, t), 0);
            }
            due("error in " + state, x.look(state, 3), 0);
            due("thread of an error in " + state, x.look(state, 4), -1);
        }
    }

    private static void firstState() {
        Probe.sentence("At first: the first statements, no owners.");
        isShown(Subject.made("thread { }"), 0, "p- >");
        isShown(Subject.made("thread { } thread { stop; } thread { } thread { stop; }"), 0, "p-,0,-,1 > 1 2");
        isShown(Subject.made("var x = 127; lock m; var y = -127; lock n; var z; thread { local a; local b; take n; take m; }"
            + " thread { } thread { local c; if (x) { wait n; } } thread { while (y) { } }"),
            0, "v127,-127,0 o-,- p0,-,2,4 l0,0,0 > 1 2 0");
    }

    private static void ready() {
        Probe.sentence("A thread is READY if it has not ended");
        graph("thread { stop; } thread { while (1) { } }", "p0,1 > 1 0", "p-,1 > 1");
        Probe.sentence("A thread is READY if it has not ended, does not wait");
        graph("lock m; thread { take m; wait m; stop; }", "o- p0 > 1", "o0 p1 > 2", "o- p1 w1 >");
        Probe.sentence("and, if its next is take of a lock, or it is woken from one, that has no owner");
        graph("lock m; thread { take m; give m; } thread { take m; }",
            "o- p0,2 > 1 2", "o0 p1,2 > 3", "o1 p0,- >", "o- p-,2 > 4", "o1 p-,- >");
        // The owner of another lock is in nobody's way.
        graph("lock m; lock n; thread { take m; } thread { take n; }",
            "o-,- p0,1 > 1 2", "o0,- p-,1 > 3", "o-,1 p0,- > 3", "o0,1 p-,- >");
        Probe.sentence("(not the thread itself either)");
        graph("lock m; thread { take m; take m; stop; }", "o- p0 > 1", "o0 p1 >");
        graph("lock m; lock n; thread { take m; take n; take m; }", "o-,- p0 > 1", "o0,- p1 > 2", "o0,0 p2 >");
    }

    /** One thread waits and is woken by the other, or comes too late for that. */
    private static final String WOKEN = "lock m; thread { take m; wait m; stop; } thread { take m; wake m; give m; }";
    private static final String[] WOKEN_STATES = {
        "o- p0,3 > 1 2", "o0 p1,3 > 3", "o1 p0,4 > 4", "o- p1,3 w1,0 > 5", "o1 p0,5 > 6", "o1 p1,4 w1,0 > 7", "o- p0,- > 8",
        "o1 p1,5 w2,0 > 9", "o0 p1,- > 10", "o- p1,- w2,0 > 11", "o- p1,- w1,0 >", "o0 p2,- > 12", "o0 p-,- >"};

    private static void readyWoken() {
        Probe.sentence("or it is woken from one, that has no owner");
        graph(WOKEN, WOKEN_STATES);
        // Thread 1 goes with the lock: nobody can give it, and the woken one stays woken.
        graph("lock m; thread { take m; wait m; } thread { take m; wake m; }",
            "o- p0,2 > 1 2", "o0 p1,2 > 3", "o1 p0,3 > 4", "o- p1,2 w1,0 > 5", "o1 p0,- >", "o1 p1,3 w1,0 > 6", "o1 p1,- w2,0 >");
    }

    private static void assign() {
        Probe.sentence("NAME = EXPR: done.");
        graph("var x = 1; var y = 2; thread { local a; x = x + y; a = x * x; y = a - x; }",
            "v1,2 p0 l0 > 1", "v3,2 p1 l0 > 2", "v3,2 p2 l9 > 3", "v3,6 p- l9 >");
        // A step that changes nothing but the place, and one that leads back to where it came from.
        graph("var x = 5; thread { x = x; while (x) { x = 5; } }", "v5 p0 > 1", "v5 p1 > 2", "v5 p2 > 1");
        graph("thread { local a; a = 1; } thread { local a; a = 2; }",
            "p0,1 l0,0 > 1 2", "p-,1 l1,0 > 3", "p0,- l0,2 > 3", "p-,- l1,2 >");
    }

    private static void takeAndGive() {
        Probe.sentence("take: it owns the lock. give: nobody owns it");
        graph("lock m; lock n; thread { take n; take m; give n; take n; give m; }",
            "o-,- p0 > 1", "o-,0 p1 > 2", "o0,0 p2 > 3", "o0,- p3 > 4", "o0,0 p4 > 5", "o-,0 p- >");
        graph("lock m; thread { } thread { } thread { } thread { take m; give m; }",
            "o- p-,-,-,0 > 1", "o3 p-,-,-,1 > 2", "o- p-,-,-,- >");
    }

    private static void waitAndWoken() {
        Probe.sentence("wait: nobody owns it, and it waits");
        graph("lock m; lock n; thread { take n; take m; wait m; }",
            "o-,- p0 > 1", "o-,0 p1 > 2", "o0,0 p2 > 3", "o-,0 p2 w1 >");
        Probe.sentence("woken: it owns the lock again, and goes on behind the wait.");
        graph(WOKEN, WOKEN_STATES);
        // Behind a wait that is its last, a woken thread has ended, and owns the lock for good.
        Subject x = Subject.made("lock m; thread { take m; wait m; } thread { take m; wake m; give m; take m; }");
        int woken = walk(x, 0, 0, 0, 1, 1, 1);
        isShown(x, woken, "o- p1,5 w2,0 > " + x.next(woken, 0) + " " + x.next(woken, 1));
        isShown(x, x.next(woken, 0), "o0 p-,5 >");
        isShown(x, x.next(woken, 1), "o1 p1,- w2,0 >");
        // So it does whichever thread it is, and whatever lock.
        for (int thread = 0; thread < 4; thread++) {
            String[] threads = {"thread { } ", "thread { } ", "thread { } ", "thread { } "};
            threads[thread] = "thread { take n; wait n; stop; } ";
            threads[(thread + 1) % 4] = "thread { take n; wake n; give n; } ";
            x = Subject.made("lock m; lock n; " + String.join("", threads));
            int other = (thread + 1) % 4;
            woken = walk(x, 0, thread, thread, other, other, other);
            due("woken " + thread, x.waits(woken, thread), 2);
            int on = step(x, woken, thread);
            due("the only step of " + thread, steps(x, woken), 1);
            due("owns it again " + thread, x.owner(on, 1), thread);
            due("waits no more " + thread, x.waits(on, thread), 0);
            due("goes on " + thread, x.place(on, thread), x.place(0, thread) + 2);
            due("to the end", x.count(2), 1);
        }
        // In a while it goes back to the while, and may wait again.
        x = Subject.made("var x; lock m; thread { take m; while (x == 0) { wait m; } } thread { take m; wake m; give m; }");
        woken = walk(x, 0, 0, 0, 0, 1, 1, 1);
        due("woken in a while", x.place(woken, 0), 2);
        due("back at the while", x.place(step(x, woken, 0), 0), 1);
        int again = walk(x, woken, 0, 0, 0);
        due("waits again", x.waits(again, 0), 1);
        due("nobody owns it again", x.owner(again, 0), -1);
    }

    private static final String WAITER = "thread { take m; wait m; } ";

    private static void wakeOne() {
        Probe.sentence("wake: one of those that wait for the lock, any, is woken, if there is one: a step for each"
            + " (if there is none, one step, that only goes on)");
        String waker = "thread { take m; wake m; stop; }";
        Subject x = Subject.made("lock m; " + waker);
        isShown(x, 1, "o0 p1 > 2");
        isShown(x, 2, "o0 p2 > 3");
        x = Subject.made("lock m; " + WAITER + waker);
        int before = walk(x, 0, 0, 0, 1);
        due("one waits: steps", steps(x, before), 1);
        due("it is woken", x.waits(x.next(before, 0), 0), 2);
        x = Subject.made("lock m; " + WAITER + WAITER + waker);
        before = walk(x, 0, 0, 0, 1, 1, 2);
        due("two wait: steps", steps(x, before), 2);
        String first = shown(x, x.next(before, 0));
        String second = shown(x, x.next(before, 1));
        Probe.holds("the first is woken: " + first, first.startsWith("o2 p1,3,6 w2,1,0 >"));
        Probe.holds("the second is woken: " + second, second.startsWith("o2 p1,3,6 w1,2,0 >"));
        // One of two waits, whichever it is.
        for (int thread = 0; thread < 2; thread++) {
            x = Subject.made("lock m; " + WAITER + WAITER + waker);
            before = walk(x, 0, thread, thread, 2);
            due("only " + thread + " waits: steps", steps(x, before), 1);
            due("it is woken", x.waits(x.next(before, 0), thread), 2);
            due("the other is not", x.waits(x.next(before, 0), 1 - thread), 0);
        }
        x = Subject.made("lock m; " + WAITER + WAITER + WAITER + waker);
        before = walk(x, 0, 2, 2, 0, 0, 1, 1, 3);
        due("three wait: steps", steps(x, before), 3);
        for (int k = 0; k < 3; k++) {
            for (int thread = 0; thread < 3; thread++) {
                due("waits " + thread + " by step " + k, x.waits(x.next(before, k), thread), thread == k ? 2 : 1);
            }
            due("behind the wake", x.place(x.next(before, k), 3), 8);
            due("still the owner", x.owner(x.next(before, k), 0), 3);
        }
    }

    private static void wakeOthers() {
        Probe.sentence("one of those that wait for the lock");
        // No place, local or owner is taken for one that waits.
        for (String use : new String[] {"wake m", "wake all m"}) {
            graph("lock m; thread { } thread { } thread { } thread { take m; " + use + "; }",
                "o- p-,-,-,0 > 1", "o3 p-,-,-,1 > 2", "o3 p-,-,-,- >");
            Subject y = Subject.made("lock m; thread { local a; take m; give m; a = 1; stop; } thread { } thread { } thread { take m; " + use + "; stop; }");
            int set = walk(y, 0, 0, 0, 0, 3);
            due("steps with " + use, steps(y, set), 2);
            int behind = step(y, set, 3);
            due("the local stays", y.local(behind, 0, 0), 1);
            due("waits", y.waits(behind, 0), 0);
        }
        // A woken one does not wait any more: the second wake finds nobody.
        Subject x = Subject.made("lock m; " + WAITER + "thread { take m; wake m; wake m; wake all m; stop; }");
        int woken = walk(x, 0, 0, 0, 1, 1);
        due("steps of the second wake", steps(x, woken), 1);
        int still = walk(x, woken, 1);
        due("woken once", x.waits(still, 0), 2);
        due("it goes on", x.place(still, 1), 5);
        due("woken still", x.waits(walk(x, still, 1), 0), 2);
        // With two that wait, the second wake has one left.
        x = Subject.made("lock m; " + WAITER + WAITER + "thread { take m; wake m; wake m; stop; }");
        int one = walk(x, 0, 0, 0, 1, 1, 2, 2);
        due("steps of the second wake", steps(x, one), 1);
        due("the first", x.waits(x.next(one, 0), 0), 2);
        due("the second", x.waits(x.next(one, 0), 1), 2);
        // Who waits for another lock is not meant, nor who stands before its take.
        String other = "lock m; lock n; " + WAITER + "thread { take n; wait n; } thread { take m; take n; USE; stop; }";
        for (String use : new String[] {"wake n", "wake all n"}) {
            x = Subject.made(other.replace("USE", use));
            int waiting = walk(x, 0, 0, 0, 1, 1, 2, 2);
            due("steps of " + use, steps(x, waiting), 1);
            due(use + ": for m", x.waits(x.next(waiting, 0), 0), 1);
            due(use + ": for n", x.waits(x.next(waiting, 0), 1), 2);
            x = Subject.made(other.replace("USE", use));
            waiting = walk(x, 0, 0, 0, 2, 2);
            due("steps of " + use + " with none", steps(x, waiting), 1);
            due(use + " with none: for m", x.waits(x.next(waiting, 0), 0), 1);
            due(use + " with none: goes on", x.place(x.next(waiting, 0), 2), 7);
        }
    }

    private static void wakeAll() {
        Probe.sentence("wake all: all are.");
        String waker = "thread { take m; wake all m; stop; }";
        Subject x = Subject.made("lock m; " + waker);
        isShown(x, 1, "o0 p1 > 2");
        isShown(x, 2, "o0 p2 > 3");
        for (int waiters = 1; waiters <= 3; waiters++) {
            x = Subject.made("lock m; " + WAITER.repeat(waiters) + waker);
            int state = 0;
            for (int thread = 0; thread < waiters; thread++) {
                state = walk(x, state, thread, thread);
            }
            state = walk(x, state, waiters);
            due(waiters + " wait: steps", steps(x, state), 1);
            for (int thread = 0; thread < waiters; thread++) {
                due("woken " + thread + " of " + waiters, x.waits(x.next(state, 0), thread), 2);
            }
            due("behind the wake", x.place(x.next(state, 0), waiters), 2 * waiters + 2);
            due("still the owner", x.owner(x.next(state, 0), 0), waiters);
        }
        // One that is woken already stays so.
        x = Subject.made("lock m; " + WAITER + WAITER + "thread { take m; wake m; wake all m; stop; }");
        int one = walk(x, 0, 0, 0, 1, 1, 2, 2);
        due("one is woken, the other waits", x.waits(one, 0) * 10 + x.waits(one, 1), 21);
        int all = x.next(one, 0);
        due("both are", x.waits(all, 0) * 10 + x.waits(all, 1), 22);
    }

    private static void lockErrors() {
        Probe.sentence("(These four are an ERROR, kind 2, if the thread does not own the lock, and nothing else happens.)");
        for (String use : new String[] {"give m", "wait m", "wake m", "wake all m"}) {
            graph("lock m; thread { " + use + "; }", "o- p0 > 1", "o- p0 e2:0 >");
            graph("lock m; lock n; thread { take n; " + use + "; }", "o-,- p0 > 1", "o-,0 p1 > 2", "o-,0 p1 e2:0 >");
            // Once it was the owner, or another one is: that is not enough.
            graph("lock m; thread { take m; give m; " + use + "; }", "o- p0 > 1", "o0 p1 > 2", "o- p2 > 3", "o- p2 e2:0 >");
            graph("lock m; thread { take m; stop; } thread { " + use + "; }",
                "o- p0,2 > 1 2", "o0 p1,2 > 3 4", "o- p0,2 e2:1 >", "o0 p-,2 > 5", "o0 p1,2 e2:1 >", "o0 p-,2 e2:1 >");
            String owned = use.equals("give m") ? "o- p- >" : use.equals("wait m") ? "o- p1 w1 >" : "o0 p- >";
            graph("lock m; thread { take m; " + use + "; }", "o- p0 > 1", "o0 p1 > 2", owned);
        }
    }

    private static void lockErrorsChangeNothing() {
        Probe.sentence("and nothing else happens.)");
        for (String use : new String[] {"give m", "wait m", "wake m", "wake all m"}) {
            Subject x = Subject.made("var x = 3; lock m; " + WAITER + "thread { take m; x = 4; stop; } thread { local a; a = 5; " + use + "; }");
            int before = walk(x, 0, 2, 0, 0, 1, 1);
            isShown(x, before, "v4 o1 p1,4,6 w1,0,0 l5 > " + x.next(before, 0) + " " + x.next(before, 1));
            int error = x.next(before, 1);
            isShown(x, error, "v4 o1 p1,4,6 w1,0,0 l5 e2:2 >");
            due("by", x.look(error, 1), 2);
        }
    }

    private static void assertError() {
        Probe.sentence("assert: an ERROR, kind 1, if the EXPR is not true.");
        graph("thread { assert 0; stop; }", "p0 > 1", "p0 e1:0 >");
        graph("thread { assert 1; stop; }", "p0 > 1", "p1 > 2", "p- >");
        graph("thread { assert -1; }", "p0 > 1", "p- >");
        graph("var x = 3; lock m; thread { local a; take m; a = 2; assert x == a; }",
            "v3 o- p0 l0 > 1", "v3 o0 p1 l0 > 2", "v3 o0 p2 l2 > 3", "v3 o0 p2 l2 e1:0 >");
        graph("var x; thread { x = 1; } thread { assert x; }",
            "v0 p0,1 > 1 2", "v1 p-,1 > 3", "v0 p0,1 e1:1 >", "v1 p-,- >");
    }

    /** The places of thread 0 along the only way of a program. */
    private static void goes(String text, int... places) {
        Subject x = Subject.made(text);
        int state = 0;
        for (int i = 0; i < places.length; i++) {
            due("place " + i + " of " + text, x.place(state, 0), places[i]);
            state = x.next(state, 0);
        }
        due("no more of " + text, state, NONE);
    }

    private static void conditions() {
        Probe.sentence("if, while: its EXPR is found, and it goes on where that leads");
        goes("thread { if (1) { } }", 0, -1);
        goes("thread { if (0) { } }", 0, -1);
        goes("thread { if (1) { } else { stop; } }", 0, -1);
        goes("thread { if (0) { stop; } else { } assert 1; }", 0, 2, -1);
        goes("thread { if (0) { stop; } assert 1; }", 0, 2, -1);
        goes("thread { if (0) { assert 1; } else { assert 2; } assert 3; }", 0, 2, 3, -1);
        goes("thread { if (5) { assert 1; } else { assert 2; } assert 3; }", 0, 1, 3, -1);
        goes("thread { if (1) { if (1) { if (1) { assert 1; } } } assert 1; }", 0, 1, 2, 3, 4, -1);
        goes("thread { while (0) { stop; } }", 0, -1);
        goes("thread { while (0) { } assert 1; }", 0, 1, -1);
        Probe.sentence("(behind a while's block: to the while)");
        goes("var x; thread { while (x < 2) { x = x + 1; } }", 0, 1, 0, 1, 0, -1);
        goes("var x; thread { while (x < 1) { if (1) { x = 1; } else { } } assert x; }", 0, 1, 2, 0, 3, -1);
        goes("var x; thread { while (x < 1) { x = 1; if (0) { stop; } } assert x; }", 0, 1, 2, 0, 4, -1);
        goes("var x; thread { while (x < 1) { if (x) { stop; } else { while (x == 0) { x = 1; } } } }", 0, 1, 3, 4, 3, 0, -1);
        goes("var x; thread { while (x < 1) { x = 1; while (x < 1) { } } }", 0, 1, 2, 0, -1);
        // Behind an empty block it is at the while again, whose state may be the same.
        graph("thread { while (1) { } }", "p0 > 0");
        graph("var x = 1; thread { while (x) { } } thread { x = 0; }", "v1 p0,1 > 0 1", "v0 p0,- > 2", "v0 p-,- >");
        graph("thread { while (1) { if (0) { } } }", "p0 > 1", "p1 > 0");
    }

    private static void stop() {
        Probe.sentence("stop: it ends.");
        goes("thread { stop; }", 0, -1);
        goes("thread { assert 1; stop; assert 0; }", 0, 1, -1);
        goes("thread { while (1) { stop; } assert 0; }", 0, 1, -1);
        goes("thread { if (1) { while (1) { if (1) { stop; } assert 0; } } assert 0; }", 0, 1, 2, 3, -1);
        graph("lock m; thread { take m; stop; } thread { stop; }",
            "o- p0,2 > 1 2", "o0 p1,2 > 3 4", "o- p0,- > 4", "o0 p-,2 > 5", "o0 p1,- > 5", "o0 p-,- >");
    }

    private static void behindAllElse() {
        Probe.sentence("Behind all else it goes on with the next statement, or has ended.");
        goes("thread { }", -1);
        goes("thread { assert 1; }", 0, -1);
        goes("thread { assert 1; assert 1; }", 0, 1, -1);
        goes("var x; lock m; thread { local a; x = 1; a = 1; take m; wake m; wake all m; give m; assert 1; }", 0, 1, 2, 3, 4, 5, 6, -1);
        for (String last : new String[] {"x = 1;", "a = 1;", "take m;", "assert 1;", "if (1) { }", "while (0) { }", "stop;"}) {
            goes("var x; lock m; thread { local a; " + last + " } thread { local a; }", 0, -1);
            goes("var x; lock m; thread { local a; if (1) { " + last + " } }", 0, 1, -1);
            goes("var x; lock m; thread { local a; if (0) { stop; } else { " + last + " } }", 0, 2, -1);
        }
        // The next thread's statements are not behind a thread's last.
        graph("thread { assert 1; } thread { assert 1; }", "p0,1 > 1 2", "p-,1 > 3", "p0,- > 3", "p-,- >");
    }

    private static void noStepsFromErrors() {
        Probe.sentence("From an error there are no steps.");
        graph("thread { assert 0; } thread { stop; }", "p0,1 > 1 2", "p0,1 e1:0 >", "p0,- > 3", "p0,- e1:0 >");
        graph("lock m; thread { while (1) { } } thread { give m; }", "o- p0,1 > 0 1", "o- p0,1 e2:1 >");
    }

    private static void sorts(String text, int ends, int deadlocks, int errors) {
        Subject x = Subject.made(text);
        due("ends of " + text, x.count(2), ends);
        due("deadlocks of " + text, x.count(3), deadlocks);
        due("errors of " + text, x.count(4), errors);
    }

    private static void deadlock() {
        Probe.sentence("DEADLOCK: no error, some thread has not ended, none is ready.");
        sorts("lock m; thread { take m; take m; }", 0, 1, 0);
        sorts("lock m; thread { take m; wait m; }", 0, 1, 0);
        // All but one have ended.
        sorts("lock m; thread { take m; } thread { } thread { } thread { take m; }", 0, 2, 0);
        // An error has no steps either, and is none.
        sorts("thread { assert 0; }", 0, 0, 1);
        sorts("lock m; thread { take m; take m; } thread { take m; assert 0; }", 0, 1, 1);
        // One that is ready is enough, though it goes nowhere.
        sorts("lock m; thread { take m; take m; } thread { while (1) { } }", 0, 0, 0);
        sorts("lock m; thread { take m; take m; } thread { while (1) { } } thread { stop; }", 0, 0, 0);
        sorts("lock m; thread { take m; wait m; } thread { take m; wake m; }", 0, 2, 0);
        sorts("lock m; thread { take m; wait m; } thread { take m; wait m; }", 0, 1, 0);
        sorts(WOKEN, 1, 1, 0);
    }

    private static void end() {
        Probe.sentence("END: all have ended.");
        sorts("thread { }", 1, 0, 0);
        sorts("thread { } thread { } thread { } thread { }", 1, 0, 0);
        sorts("thread { } thread { } thread { } thread { stop; }", 1, 0, 0);
        sorts("thread { } thread { while (1) { } }", 0, 0, 0);
        sorts("thread { stop; } thread { assert 0; }", 0, 0, 2);
        sorts("var x; thread { x = 1; } thread { x = 2; }", 2, 0, 0);
        // A lock that is still owned does not matter.
        sorts("lock m; thread { take m; }", 1, 0, 0);
        sorts("lock k; lock l; lock m; lock n; thread { take k; take l; take m; take n; }", 1, 0, 0);
        sorts("lock k; lock l; lock m; lock n; thread { take n; } thread { } thread { } thread { take k; }", 1, 0, 0);
        due("the last to end", Subject.made("thread { } thread { } thread { } thread { stop; }").first(0), 1);
    }

    private static void numbered() {
        Probe.sentence("STATES ARE NUMBERED: 0 the first; then, from state 0 on, state by state, thread by thread"
            + " (of a wake: woken ones by threads), what a step leads to, if it is not there yet, is the next number.");
        graph("thread { assert 1; assert 1; } thread { assert 1; assert 1; }",
            "p0,2 > 1 2", "p1,2 > 3 4", "p0,3 > 4 5", "p-,2 > 6", "p1,3 > 6 7", "p0,- > 7", "p-,3 > 8", "p1,- > 8", "p-,- >");
        graph("thread { stop; } thread { stop; } thread { stop; }",
            "p0,1,2 > 1 2 3", "p-,1,2 > 4 5", "p0,-,2 > 4 6", "p0,1,- > 5 6", "p-,-,2 > 7", "p-,1,- > 7", "p0,-,- > 7", "p-,-,- >");
        // Errors have their numbers among the others.
        graph("thread { assert 0; } thread { assert 1; } thread { assert 0; }",
            "p0,1,2 > 1 2 3", "p0,1,2 e1:0 >", "p0,-,2 > 4 5", "p0,1,2 e1:2 >", "p0,-,2 e1:0 >", "p0,-,2 e1:2 >");
    }

    private static void numberedWakes() {
        Probe.sentence("(of a wake: woken ones by threads)");
        Subject x = Subject.made("lock m; " + WAITER + WAITER + "thread { take m; wake m; } " + WAITER);
        int before = walk(x, 0, 3, 3, 1, 1, 0, 0, 2);
        int first = x.next(before, 0);
        due("the first is woken", x.waits(first, 0), 2);
        due("then the second", x.waits(first + 1, 1), 2);
        due("then the last", x.waits(first + 2, 3), 2);
        due("all steps", steps(x, before), 3);
        for (int k = 0; k < 3; k++) {
            due("number " + k, x.next(before, k), first + k);
            due("from", x.look(first + k, 2), before);
            due("by", x.look(first + k, 1), 2);
        }
    }

    private static void sameStates() {
        Probe.sentence("(Two states are the same if all that is told of them is");
        graph("var x; var y; thread { x = 1; } thread { y = 1; }",
            "v0,0 p0,1 > 1 2", "v1,0 p-,1 > 3", "v0,1 p0,- > 3", "v1,1 p-,- >");
        // They differ in nothing but a variable, a local, an owner, or that a thread is woken.
        graph("var x; thread { x = 1; } thread { x = 2; }",
            "v0 p0,1 > 1 2", "v1 p-,1 > 3", "v2 p0,- > 4", "v2 p-,- >", "v1 p-,- >");
        graph("var x; thread { local a; a = x; } thread { x = 1; }",
            "v0 p0,1 l0 > 1 2", "v0 p-,1 l0 > 3", "v1 p0,- l0 > 4", "v1 p-,- l0 >", "v1 p-,- l1 >");
        graph("var x; lock m; thread { if (x) { take m; } } thread { x = 1; }",
            "v0 o- p0,2 > 1 2", "v0 o- p-,2 > 3", "v1 o- p0,- > 4", "v1 o- p-,- >", "v1 o- p1,- > 5", "v1 o0 p-,- >");
        graph("lock m; thread { take m; wait m; } thread { take m; while (1) { wake m; } }",
            "o- p0,2 > 1 2", "o0 p1,2 > 3", "o1 p0,3 > 4", "o- p1,2 w1,0 > 5", "o1 p0,4 > 2", "o1 p1,3 w1,0 > 6",
            "o1 p1,4 w1,0 > 7", "o1 p1,3 w2,0 > 8", "o1 p1,4 w2,0 > 7");
        // However many there are, none is found twice.
        Subject round = Subject.made("var x; thread { while (1) { x = x + 1; } }");
        due("places and values", round.count(0), 2 * 256);
        due("pairs", round.count(1), 2 * 256);
        due("the last leads to the first", round.next(511, 0), 0);
        round = Subject.made("var x; thread { while (1) { x = 5 * x + 3; } }");
        due("places and all values in another order", round.count(0), 2 * 256);
        due("the last leads to the first", round.next(511, 0), 0);
        round = Subject.made("var x; var y; thread { while (1) { x = x + 2; } } thread { y = 7; }");
        due("places of two and values of two", round.count(0), 2 * 2 * 128);
        round = Subject.made("var x; thread { local a; while (1) { a = a + 3; x = a + x * 0; } }");
        due("places and values of a local", round.count(0), 3 * 256);
        Probe.sentence("an error's are those of the state before, with its thread and kind.)");
        graph("thread { assert 0; } thread { assert 0; }", "p0,1 > 1 2", "p0,1 e1:0 >", "p0,1 e1:1 >");
        graph("lock m; thread { assert 0; } thread { give m; }", "o- p0,1 > 1 2", "o- p0,1 e1:0 >", "o- p0,1 e2:1 >");
        // Two ways lead to state 3, and its error is one.
        graph("var x; thread { x = 1; } thread { x = 1; } thread { if (x) { assert 0; } else { stop; } }",
            "v0 p0,1,2 > 1 2 3", "v1 p-,1,2 > 4 5", "v1 p0,-,2 > 4 6", "v0 p0,1,4 > 7 8 9", "v1 p-,-,2 > 10",
            "v1 p-,1,3 > 10 11", "v1 p0,-,3 > 10 12", "v1 p-,1,4 > 13 14", "v1 p0,-,4 > 13 15", "v0 p0,1,- > 14 15",
            "v1 p-,-,3 > 16", "v1 p-,1,3 e1:2 >", "v1 p0,-,3 e1:2 >", "v1 p-,-,4 > 17", "v1 p-,1,- > 17", "v1 p0,-,- > 17",
            "v1 p-,-,3 e1:2 >", "v1 p-,-,- >");
    }
}
