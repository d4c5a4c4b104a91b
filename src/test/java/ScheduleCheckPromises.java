/** The promises of the document in their order, sentence by sentence, on both sides of each boundary. */
public final class ScheduleCheckPromises {
    private static final int REFUSED = -1, NONE = -2, FULL = -3;
    private static final int MIN = Integer.MIN_VALUE, MAX = Integer.MAX_VALUE;
    /** Numbers that nothing has; the great ones come back into a row if they are multiplied. */
    private static final int[] NOWHERE = {MIN, MIN + 1, MIN + 34, -65536, -1000, -34, -3, -2, -1,
        800, 801, 1000, 1600, 65536, 1 << 24, 1 << 27, 1 << 28, 1 << 29, 1 << 30, MAX - 1, MAX};

    /** One thread that goes through exactly 800 states: 7 * (2 * 55 + 4) + 2. */
    private static final String STATES_800 = "var x; var y; thread { while (y < 7) { x = 0;"
        + " while (x < 55) { x = x + 1; } y = y + 1; } }";
    private static final String STATES_801 = STATES_800.substring(0, STATES_800.length() - 1) + "stop; }";

    public static void main(String[] args) {
        newObject();
        feedBytes();
        feedFull();
        endCuts();
        endRefused();
        checkNone();
        checkFault();
        checkFull();
        count();
        countPairs();
        countRefused();
        first();
        firstNone();
        look();
        lookNone();
        value();
        local();
        place();
        owner();
        waits();
        next();
        nextNone();
        outcome();
        outcomeNone();
        race();
        raceNone();
        Probe.finish("ScheduleCheckPromises");
    }

    private static void due(String what, int got, int want) {
        Probe.due(what, got, want);
    }

    /** Every call that asks for a program or a state finds none. */
    private static void holdsNothing(String when, Subject x) {
        for (int what = 0; what < 9; what++) {
            due("count " + what + " " + when, x.count(what), 0);
        }
        for (int what = 0; what < 3; what++) {
            due("first " + what + " " + when, x.first(what), NONE);
            due("outcome " + what + " " + when, x.outcome(0, what), 1000);
        }
        for (int what = 0; what < 5; what++) {
            due("look " + what + " " + when, x.look(0, what), NONE);
        }
        due("value " + when, x.value(0, 0), 1000);
        due("local " + when, x.local(0, 0, 0), 1000);
        due("place " + when, x.place(0, 0), NONE);
        due("owner " + when, x.owner(0, 0), NONE);
        due("waits " + when, x.waits(0, 0), NONE);
        due("next " + when, x.next(0, 0), NONE);
        due("race " + when, x.race(0), NONE);
    }

    /** What an object tells of its program and of its first states. */
    private static String told(Subject x) {
        StringBuilder all = new StringBuilder();
        for (int what = 0; what < 9; what++) {
            all.append(x.count(what)).append(' ');
        }
        for (int what = 0; what < 3; what++) {
            all.append(x.first(what)).append(' ').append(x.outcome(0, what)).append(' ');
        }
        all.append(x.race(0)).append(' ').append(x.race(1));
        for (int state = 0; state < 4; state++) {
            all.append('\n').append(x.look(state, 0)).append(x.look(state, 2)).append(x.look(state, 3));
            all.append(' ').append(x.value(state, 0)).append(' ').append(x.local(state, 0, 0));
            all.append(' ').append(x.place(state, 0)).append(x.place(state, 1)).append(x.waits(state, 0));
            all.append(' ').append(x.owner(state, 0)).append(' ').append(x.next(state, 0)).append(x.next(state, 1));
        }
        return all.toString();
    }

    private static void newObject() {
        Probe.sentence("Promise 1: No program, no states.");
        holdsNothing("of a new object", new Subject());
        Subject x = new Subject();
        due("fault of a new tape", x.check(), 0);
        holdsNothing("behind a fault of a new object", x);
        Subject other = Subject.made("var x; thread { x = 1; }");
        holdsNothing("beside another object", x);
        due("states of the other", other.count(0), 2);
        holdsNothing("behind another object", new Subject());
    }

    private static void feedBytes() {
        Probe.sentence("Promise 2: Twenty bytes, five times four, the highest of each first, come to the TAPE");
        for (int at = 0; at < 20; at++) {
            for (int odd : new int[] {0, 1, 64, 127, 128, 255}) {
                int[] words = {0x20202020, 0x20202020, 0x20202020, 0x20202020, 0x20202020};
                int shift = 24 - at % 4 * 8;
                words[at / 4] = words[at / 4] & ~(255 << shift) | odd << shift;
                Subject x = new Subject();
                x.feed(words[0], words[1], words[2], words[3], words[4]);
                due("place of byte " + odd + " at " + at, x.check(), at);
                x.feed(' ');
                x.feed(words[0], words[1], words[2], words[3], words[4]);
                due("place of byte " + odd + " at " + (20 + at), x.check(), 20 + at);
            }
        }
        Subject x = new Subject();
        x.feed(0x74687265, 0x61647b73, 0x746f703b, 0x7d202020, 0x20202020);
        due("check of \"thread{stop;}\"", x.check(), NONE);
        due("its statements", x.count(8), 1);
        Probe.sentence("Promise 2: how many it has");
        Subject y = new Subject();
        for (int i = 1; i <= 80; i++) {
            due("feed " + i, y.feed(-1, MIN, 0, 5, MAX), 20 * i);
        }
        due("cut", y.end(7), 7);
        due("feed behind a cut", y.feed(0, 0, 0, 0, 0), 27);
        due("cut", y.end(0), 0);
        due("feed to nothing", y.feed(0, 0, 0, 0, 0), 20);
        y.check();
        due("feed behind a check", y.feed(0, 0, 0, 0, 0), 20);
    }

    /** An object with a tape of so many bytes, blanks all, behind "thread{}". */
    private static Subject taped(int bytes) {
        Subject x = new Subject();
        x.feed(0x74687265, 0x61647b7d, 0x20202020, 0x20202020, 0x20202020);
        for (int size = 20; size < bytes; size += 20) {
            x.feed(' ');
        }
        due("cut to " + bytes, x.end(bytes), bytes);
        return x;
    }

    private static void feedFull() {
        Probe.sentence("Promise 2: FULL if it would have more than 1600.");
        due("feed to 1579", taped(1579).feed(' '), 1599);
        due("feed to 1580", taped(1580).feed(' '), 1600);
        due("feed to 1581", taped(1581).feed(' '), FULL);
        due("feed to 1599", taped(1599).feed(' '), FULL);
        due("feed to 1600", taped(1600).feed(' '), FULL);
        for (int size : new int[] {1581, 1599, 1600}) {
            Subject x = taped(size);
            due("feed to " + size, x.feed('@'), FULL);
            due("feed again to " + size, x.feed('@'), FULL);
            due("one more than it has", x.end(size + 1), REFUSED);
            due("as much as it has", x.end(size), size);
            due("nothing of it came: check", x.check(), NONE);
            due("empty: feed", x.feed(' '), 20);
        }
        Subject y = taped(1600);
        due("full", y.feed('}'), FULL);
        due("cut", y.end(1580), 1580);
        due("feed behind a cut", y.feed('@'), 1600);
        due("it came", y.check(), 1580);
    }

    private static void endCuts() {
        Probe.sentence("Promise 3: The TAPE is cut to its first n bytes: n");
        Subject x = new Subject();
        due("0 of 0", x.end(0), 0);
        x.feed(' ');
        due("20 of 20", x.end(20), 20);
        due("19 of 20", x.end(19), 19);
        due("1 of 19", x.end(1), 1);
        due("0 of 1", x.end(0), 0);
        for (int n = 0; n <= 20; n++) {
            Subject y = new Subject();
            y.feed(' ');
            y.end(n);
            y.feed('@');
            due("what comes behind " + n, y.check(), n);
        }
        Subject z = new Subject();
        // "thread { }}}}}}}}}}}" is a program if it is cut to 10 bytes, has too much at 11, too little at 9.
        for (int n = 9; n <= 11; n++) {
            z.feed(0x74687265, 0x6164207b, 0x207d7d7d, 0x7d7d7d7d, 0x7d7d7d7d);
            due("cut", z.end(n), n);
            due("what is left of " + n, z.check(), n == 9 ? 9 : n == 10 ? NONE : 10);
        }
        // What is cut is gone, though it would go on with the token that is cut.
        String text = "var abcdefgh = 127 ; thread { abcdefgh = abcdefgh <= 127 && abcdefgh != 100 ; }";
        for (int n = 0; n <= text.length(); n++) {
            Subject cut = new Subject();
            cut.write(0, text);
            cut.end(n);
            due("cut to " + n, cut.check(), new Subject().check(text.substring(0, n)));
        }
        endsAt("var abcdefgh", 11);
        endsAt("var x = 127", 10);
        endsAt("var x = 127", 9);
        endsAt("var x; thread { x = x <= 1", 23);
        endsAt("var x; thread { x = x == 1", 23, 22);
        endsAt("var x; thread { x = x && 1", 23, 22);
        Subject full = taped(1600);
        due("1600 of 1600", full.end(1600), 1600);
        due("its text", full.check(), NONE);
        full = taped(1600);
        due("0 of 1600", full.end(0), 0);
        due("no text", full.check(), 0);
    }

    /** A text that is cut to n bytes has its fault at its end, or where it is told. */
    private static void endsAt(String text, int n, int... told) {
        Subject x = new Subject();
        x.write(0, text);
        due("cut", x.end(n), n);
        due(text + " cut to " + n, x.check(), told.length == 0 ? n : told[0]);
    }

    private static void endRefused() {
        Probe.sentence("Promise 3: REFUSED if it has less");
        due("1 of 0", new Subject().end(1), REFUSED);
        for (int size : new int[] {1, 9, 19, 20, 21, 1599, 1600}) {
            Subject x = taped(size);
            due("one more than " + size, x.end(size + 1), REFUSED);
            due("max", x.end(MAX), REFUSED);
            due("it still has " + size, x.end(size), size);
            x.end(size - 1);
            due("cut bytes are gone", x.end(size), REFUSED);
            due("what is left of " + size, x.check(), size == 1 ? 0 : NONE);
        }
        Subject y = new Subject();
        y.write(0, "thread { } x");
        due("13 of 12", y.end(13), REFUSED);
        due("nothing was cut", y.check(), 11);
        due("a tape that was read", y.end(1), REFUSED);
        Probe.sentence("Promise 3: or n is below 0.");
        for (int n : new int[] {-1, -2, -20, -1600, MIN + 1, MIN}) {
            Subject x = taped(20);
            due(n + " of 20", x.end(n), REFUSED);
            due("it still has 20", x.end(20), 20);
            due("its text", x.check(), NONE);
            due(n + " of 0", x.end(n), REFUSED);
        }
        due("0 is not below 0", taped(20).end(0), 0);
    }

    private static void checkNone() {
        Probe.sentence("Promise 4: The TAPE as a text becomes the PROGRAM, and all its states are found: NONE");
        Subject x = Subject.made("var x; var y; lock m; thread { local a; take m; x = 3; } thread { }");
        int[] counts = {3, 2, 1, 0, 0, 2, 2, 1, 2};
        for (int what = 0; what < counts.length; what++) {
            due("count " + what, x.count(what), counts[what]);
        }
        due("another program", x.check("thread { stop; }"), NONE);
        int[] others = {2, 1, 1, 0, 0, 1, 0, 0, 1};
        for (int what = 0; what < others.length; what++) {
            due("count " + what + " of the other", x.count(what), others[what]);
        }
        due("the first one's state is gone", x.look(2, 0), NONE);
        due("its variable is gone", x.value(0, 0), 1000);
        due("its local is gone", x.local(0, 0, 0), 1000);
        due("its lock is gone", x.owner(0, 0), NONE);
        due("its thread is gone", x.place(0, 1), NONE);
        due("the first one again", x.check("var x; var y; lock m; thread { local a; take m; x = 3; } thread { }"), NONE);
        due("its value", x.value(2, 0), 3);
        due("its value before", x.value(1, 0), 0);
        due("its owner", x.owner(2, 0), 0);
        due("no owner at first", x.owner(0, 0), -1);
        due("states", x.count(0), 3);
        smallBehindGreat();
        Subject widest = taped(1600);
        due("a text of 1600 bytes", widest.check(), NONE);
        due("its threads", widest.count(5), 1);
        due("the least text", new Subject().check("thread{}"), NONE);
    }

    /** Nothing of a program with more states, statements and names shows in one with less. */
    private static void smallBehindGreat() {
        String[] great = {"var x; thread { x = 5; x = 6; x = 7; }", "var x; thread { x = 1; } thread { x = 2; x = 3; }",
            "lock m; thread { take m; take m; } thread { take m; give m; stop; }", "thread { assert 1; assert 1; assert 0; }",
            "var x; thread { x = x; } thread { x = x; } thread { x = x; } thread { assert x; }"};
        String[] small = {"var x; thread { x = 1; }", "thread { }", "var x; lock m; thread { take m; } thread { take m; }",
            "var x; lock m; thread { while (1) { } } thread { assert 1; }"};
        for (String first : great) {
            for (String second : small) {
                Subject x = Subject.made(first);
                // Twice each, for an object may well have two places for a program.
                due("again", x.check(first), NONE);
                due("the other", x.check(second), NONE);
                Probe.holds(second + " behind " + first, told(x).equals(told(Subject.made(second))));
                due("again", x.check(second), NONE);
                Probe.holds(second + " twice behind " + first, told(x).equals(told(Subject.made(second))));
            }
        }
    }

    private static void checkFault() {
        Probe.sentence("Promise 4: its FAULT if it has one (program and states stay)");
        // '^' stands before the place of the fault, and is no part of the text.
        String[] marked = {"^", " ^", "^@", "var^", "var x; thread { x = 1 ^}", "thread { } ^x", "lock m; thread { take m; } ^@",
            "var a; var b; var c; lock d; thread { local e; local f; a = 1; stop; } thread { } thread { } ^; "};
        String kept = "var x; var y; lock m; thread { local a; a = x; take m; x = 3; } thread { wake m; }";
        for (String one : marked) {
            int place = one.indexOf('^');
            String faulty = one.replace("^", "");
            Subject x = Subject.made(kept);
            String before = told(x);
            due("fault of " + one, x.check(faulty), place);
            Probe.holds("all stays behind " + one, told(x).equals(before));
            due("the tape is empty", x.end(1), REFUSED);
            due("the same again", x.check(faulty), place);
            Probe.holds("all stays behind " + one, told(x).equals(before));
            Subject none = new Subject();
            due("fault without a program before", none.check(faulty), place);
            holdsNothing("behind a fault", none);
        }
        Subject full = Subject.made(STATES_800);
        due("fault behind 800 states", full.check("thread"), 6);
        due("all stay", full.count(0), 800);
        due("the last one's", full.value(799, 1), 7);
    }

    private static void checkFull() {
        Probe.sentence("Promise 4: FULL if there are more than 800 (then there is no program and no states).");
        Subject x = Subject.made(STATES_800);
        due("states", x.count(0), 800);
        due("the last one", x.look(799, 0), 799);
        due("one too far", x.look(800, 0), NONE);
        due("the end", x.first(0), 799);
        due("y", x.value(799, 1), 7);
        due("801 states", x.check(STATES_801), FULL);
        holdsNothing("behind a full one", x);
        due("the tape is empty", x.end(1), REFUSED);
        due("fault behind a full one", x.check("var"), 3);
        holdsNothing("behind a full one and a fault", x);
        due("a small one behind a full one", x.check("var x; thread { x = 1; }"), NONE);
        due("its states", x.count(0), 2);
        due("its value", x.value(1, 0), 1);
        due("801 states of a new object", new Subject().check(STATES_801), FULL);
        String row = "x=x;";
        String grid = "thread{" + row.repeat(7) + "} thread{" + row.repeat(9) + "} thread{" + row.repeat(9) + "}";
        Subject y = Subject.made("var x;" + grid);
        due("8 * 10 * 10 states", y.count(0), 800);
        due("their pairs", y.count(1), 7 * 100 + 2 * 8 * 9 * 10);
        due("the last one is the end", y.first(0), 799);
        due("far more", y.check("var x;" + grid + "thread{x=x;}"), FULL);
        holdsNothing("behind far more", y);
        String error = "thread { assert 0; }";
        due("a grid and its errors", y.check("var x; thread {" + row.repeat(19) + "} thread {" + row.repeat(19) + "} " + error), NONE);
        due("20 * 20 states, each with an error", y.count(0), 800);
        due("their errors", y.count(4), 400);
        due("no end", y.count(2), 0);
        due("one error too many", y.check("var x; thread {" + row.repeat(19) + "} thread {" + row.repeat(20) + "} " + error), FULL);
        holdsNothing("behind too many errors", y);
    }

    private static void counts(String text, int... dues) {
        Subject x = Subject.made(text);
        for (int what = 0; what < dues.length; what++) {
            due("count " + what + " of " + text, x.count(what), dues[what]);
        }
    }

    private static void count() {
        Probe.sentence("Promise 5: What 0: states, 1: pairs of a state and one to which a step leads from it"
            + " (each pair once, however many steps), 2: ends, 3: deadlocks, 4: errors, 5: threads, 6: variables, 7: locks, 8: statements.");
        counts("thread { }", 1, 0, 1, 0, 0, 1, 0, 0, 0);
        counts("thread { } thread { } thread { } thread { }", 1, 0, 1, 0, 0, 4, 0, 0, 0);
        // a = 1 and the assert in any order, but nothing behind the error.
        counts("var a; var b; lock m; thread { a = 1; } thread { assert b; } thread { }", 4, 3, 0, 0, 2, 3, 2, 1, 2);
        counts("lock m; thread { take m; take m; }", 2, 1, 0, 1, 0, 1, 0, 1, 2);
        counts("lock m; lock n; lock o; thread { take m; } thread { take m; }", 3, 2, 0, 2, 0, 2, 0, 3, 2);
        counts("var x; thread { x = 1; } thread { x = 2; }", 5, 4, 2, 0, 0, 2, 1, 0, 2);
        counts("thread { while (1) { } }", 1, 1, 0, 0, 0, 1, 0, 0, 1);
        counts("thread { if (1) { stop; stop; } else { stop; } stop; }", 3, 2, 1, 0, 0, 1, 0, 0, 5);
    }

    private static void countPairs() {
        Probe.sentence("Promise 5: (each pair once, however many steps)");
        counts("thread { while (1) { } } thread { while (1) { } }", 1, 1);
        counts("thread { while (1) { } } thread { while (1) { } } thread { while (1) { } } thread { while (1) { } }", 1, 1);
        // 0 to itself twice and to 1; 1 to itself twice.
        counts("thread { while (1) { } } thread { while (1) { } } thread { stop; }", 2, 3);
        // There and back are two pairs.
        counts("thread { while (1) { while (0) { } } }", 2, 2);
        // Two pairs may have the same second state.
        counts("var a; var b; thread { a = 1; } thread { b = 1; }", 4, 4);
    }

    private static void countRefused() {
        Probe.sentence("Promise 5: REFUSED for others.");
        for (Subject x : new Subject[] {new Subject(), Subject.made("var x; lock m; thread { x = 1; }")}) {
            String before = told(x);
            due("the first", x.count(0) >= 0 ? 1 : 0, 1);
            due("before the first", x.count(-1), REFUSED);
            due("the last", x.count(8) >= 0 ? 1 : 0, 1);
            due("behind the last", x.count(9), REFUSED);
            for (int what : NOWHERE) {
                due("count " + what, x.count(what), REFUSED);
            }
            for (int what = 9; what < 40; what++) {
                due("count " + what, x.count(what), REFUSED);
            }
            Probe.holds("all stays", told(x).equals(before));
        }
    }

    private static void first() {
        Probe.sentence("Promise 6: The least number of, what 0: an end, 1: a deadlock, 2: an error.");
        Subject x = Subject.made("lock m; lock n; thread { take m; take n; } thread { take n; take m; assert 0; }");
        // In state 3 thread 0 has ended with both locks; in state 4 each thread has one.
        due("a deadlock", x.first(1), 3);
        due("deadlocks", x.count(3), 2);
        due("places", x.place(4, 0) * 10 + x.place(4, 1), 13);
        due("an error", x.first(2), 6);
        due("its kind", x.look(6, 3), 1);
        x = Subject.made("thread { }");
        due("state 0 is an end", x.first(0), 0);
        x = Subject.made("var x; thread { x = 1; } thread { x = 2; }");
        due("the less of two ends", x.first(0), 3);
        due("its number of steps", x.look(3, 0), 2);
        due("the other end", x.look(4, 0), 2);
        x = Subject.made("thread { assert 0; } thread { assert 0; }");
        due("the less of two errors", x.first(2), 1);
        due("an error at the last", Subject.made("thread { assert 1; assert 0; }").first(2), 2);
    }

    private static void firstNone() {
        Probe.sentence("Promise 6: NONE if there is none");
        String[] texts = {"thread { }", "lock m; thread { take m; take m; }", "thread { assert 0; }", "thread { while (1) { } }"};
        int[][] dues = {{0, NONE, NONE}, {NONE, 1, NONE}, {NONE, NONE, 1}, {NONE, NONE, NONE}};
        for (int i = 0; i < texts.length; i++) {
            for (int what = 0; what < 3; what++) {
                due("first " + what + " of " + texts[i], Subject.made(texts[i]).first(what), dues[i][what]);
            }
        }
        for (int what = 0; what < 3; what++) {
            due("first " + what + " without states", new Subject().first(what), NONE);
        }
        Probe.sentence("Promise 6: REFUSED for another what, first.");
        for (Subject x : new Subject[] {new Subject(), Subject.made("thread { }"), Subject.made("thread { assert 0; }")}) {
            String before = told(x);
            due("before the first", x.first(-1), REFUSED);
            due("behind the last", x.first(3), REFUSED);
            due("further behind", x.first(4), REFUSED);
            for (int what : NOWHERE) {
                due("first " + what, x.first(what), REFUSED);
            }
            Probe.holds("all stays", told(x).equals(before));
        }
    }

    private static void looks(String text, int[]... dues) {
        Subject x = Subject.made(text);
        for (int state = 0; state < dues.length; state++) {
            for (int what = 0; what < 5; what++) {
                due("look " + state + " " + what + " of " + text, x.look(state, what), dues[state][what]);
            }
        }
        due("states of " + text, x.count(0), dues.length);
        due("one too far of " + text, x.look(dues.length, 0), NONE);
    }

    private static void look() {
        Probe.sentence("Promise 7: what 0: how many steps it is from the first one (by the way in which it was found),"
            + " 1: the thread that did the last of them (-1 for state 0), 2: the state before that (-1 for state 0),"
            + " 3: the kind of its error, 0 without one, 4: the thread of its error, -1 without one.");
        looks("thread { }", new int[] {0, -1, -1, 0, -1});
        // 0 -t0-> 1, 0 -t1-> 2 (error), 1 -t0-> 3, 1 -t1-> 4 (error), 3 -t1-> 5 (error)
        looks("var a; lock m; thread { a = 1; a = 0; } thread { give m; }",
            new int[] {0, -1, -1, 0, -1}, new int[] {1, 0, 0, 0, -1}, new int[] {1, 1, 0, 2, 1},
            new int[] {2, 0, 1, 0, -1}, new int[] {2, 1, 1, 2, 1}, new int[] {3, 1, 3, 2, 1});
        // State 3 comes of 1 and of 2, and was found from 1.
        looks("var a; var b; thread { a = 1; } thread { b = 1; }",
            new int[] {0, -1, -1, 0, -1}, new int[] {1, 0, 0, 0, -1}, new int[] {1, 1, 0, 0, -1}, new int[] {2, 1, 1, 0, -1});
        // The way leads back to state 0, which stays the first one.
        looks("var x; thread { while (1) { x = 1 - x; } }",
            new int[] {0, -1, -1, 0, -1}, new int[] {1, 0, 0, 0, -1}, new int[] {2, 0, 1, 0, -1}, new int[] {3, 0, 2, 0, -1});
        looks("thread { } thread { } thread { } thread { assert 0; }",
            new int[] {0, -1, -1, 0, -1}, new int[] {1, 3, 0, 1, 3});
    }

    private static void lookNone() {
        Probe.sentence("Promise 7: NONE if there is no such state");
        Subject x = Subject.made("thread { stop; }");
        for (int what = 0; what < 5; what++) {
            Probe.holds("the last state", x.look(1, what) != NONE);
            due("behind the last state", x.look(2, what), NONE);
            due("before the first state", x.look(-1, what), NONE);
            due("without states", new Subject().look(0, what), NONE);
        }
        for (int state : NOWHERE) {
            due("look " + state, x.look(state, 0), NONE);
            due("look " + state, x.look(state, 4), NONE);
        }
        Probe.sentence("Promise 7: REFUSED for another what, first.");
        for (int what : NOWHERE) {
            due("look 0 " + what, x.look(0, what), REFUSED);
            due("no such what and no such state", x.look(2, what), REFUSED);
            due("no such what without states", new Subject().look(0, what), REFUSED);
        }
        for (int what = 5; what < 40; what++) {
            due("look 0 " + what, x.look(0, what), REFUSED);
            due("look -1 " + what, x.look(-1, what), REFUSED);
        }
        due("the last what", x.look(1, 4), -1);
    }

    /** Two variables, three locks, two threads with one local and two, two states. */
    private static Subject sized() {
        return Subject.made("var x = 5; var y = 6; lock m; lock n; lock o;"
            + " thread { local a; a = 7; } thread { local b; local c; }");
    }

    private static void value() {
        Probe.sentence("Promise 8: A variable in a state; 1000 if there is none.");
        Subject x = Subject.made("var a = 5; var b = -127; var c; thread { c = a + b; }");
        due("a", x.value(0, 0), 5);
        due("b", x.value(0, 1), -127);
        due("c", x.value(0, 2), 0);
        due("c then", x.value(1, 2), -122);
        x = Subject.made("thread { local a; a = 7; }");
        due("a local is no variable", x.value(1, 0), 1000);
        x = sized();
        due("the last variable of the last state", x.value(1, 1), 6);
        for (int outside = 2; outside < 50; outside++) {
            due("variable " + outside, x.value(0, outside), 1000);
            due("state " + outside, x.value(outside, 0), 1000);
        }
        for (int outside : NOWHERE) {
            due("variable " + outside, x.value(0, outside), 1000);
            due("state " + outside, x.value(outside, 0), 1000);
            due("both " + outside, x.value(outside, outside), 1000);
            due("without a program", new Subject().value(outside, outside), 1000);
        }
        x = Subject.made("var a = 1; var b = 2; var c = 3; var d = 4; var e = 5; var f = 6; var g = 7; var h = 8; thread { }");
        for (int variable = 0; variable < 8; variable++) {
            due("of eight", x.value(0, variable), variable + 1);
        }
        due("none behind eight", x.value(0, 8), 1000);
    }

    private static void local() {
        Probe.sentence("Promise 9: A thread's local k in a state; 1000 if there is none.");
        Subject x = Subject.made("var a = 9; thread { local b; local a; a = a + 1; b = a - 2; } thread { local c; c = a; }");
        due("at first", x.local(0, 0, 0), 0);
        due("in the next state", x.local(1, 0, 1), 1);
        due("of the other thread", x.local(2, 1, 0), 9);
        int last = x.first(0);
        due("b at the end", x.local(last, 0, 0), -1);
        due("a at the end", x.local(last, 0, 1), 1);
        due("c at the end", x.local(last, 1, 0), 9);
        x = sized();
        due("the last local of thread 0", x.local(1, 0, 0), 7);
        due("the last local of thread 1", x.local(1, 1, 1), 0);
        for (int outside = 1; outside < 40; outside++) {
            due("local " + outside, x.local(1, 0, outside), 1000);
            due("local " + outside + " of 1", x.local(1, 1, 1 + outside), 1000);
            due("thread " + outside, x.local(1, 1 + outside, 0), 1000);
            due("state " + outside, x.local(1 + outside, 0, 0), 1000);
        }
        for (int outside : NOWHERE) {
            due("local " + outside, x.local(1, 0, outside), 1000);
            due("thread " + outside, x.local(1, outside, 0), 1000);
            due("state " + outside, x.local(outside, 0, 0), 1000);
            due("without a program", new Subject().local(outside, outside, outside), 1000);
        }
        String three = "thread { local a; local b; local c; a = 1; b = 2; c = 3; } ";
        x = Subject.made("thread { } " + three + "thread { }");
        due("none of a thread without", x.local(0, 0, 0), 1000);
        due("none of a thread behind", x.local(3, 2, 0), 1000);
        for (int k = 0; k < 3; k++) {
            due("of three", x.local(3, 1, k), k + 1);
        }
        due("none behind three", x.local(3, 1, 3), 1000);
        due("none before", x.local(3, 1, -1), 1000);
    }

    private static void place() {
        Probe.sentence("Promise 10: The statement that is next for a thread in a state, -1 if it has ended.");
        Subject x = Subject.made("thread { stop; stop; } thread { assert 1; } thread { }");
        due("the first statement", x.place(0, 0), 0);
        due("of the next thread", x.place(0, 1), 2);
        due("a thread without one has ended", x.place(0, 2), -1);
        due("ended by stop", x.place(1, 0), -1);
        due("the other is where it was", x.place(1, 1), 2);
        due("ended behind the last", x.place(2, 1), -1);
        x = Subject.made("thread { " + "assert 1; ".repeat(50) + "}");
        due("the last of fifty", x.place(49, 0), 49);
        due("behind the last of fifty", x.place(50, 0), -1);
        Probe.sentence("Promise 10: NONE if there is no such thread or state.");
        x = sized();
        due("the last thread of the last state", x.place(1, 1), -1);
        noSuchThread(x, true);
    }

    /** place, or else waits, of an object with two threads and two states. */
    private static void noSuchThread(Subject x, boolean isPlace) {
        for (int outside = 2; outside < 40; outside++) {
            due("thread " + outside, isPlace ? x.place(0, outside) : x.waits(0, outside), NONE);
            due("state " + outside, isPlace ? x.place(outside, 0) : x.waits(outside, 0), NONE);
        }
        for (int outside : NOWHERE) {
            due("thread " + outside, isPlace ? x.place(0, outside) : x.waits(0, outside), NONE);
            due("state " + outside, isPlace ? x.place(outside, 0) : x.waits(outside, 0), NONE);
            Subject none = new Subject();
            due("without a program", isPlace ? none.place(outside, outside) : none.waits(outside, outside), NONE);
        }
        due("without a program", isPlace ? new Subject().place(0, 0) : new Subject().waits(0, 0), NONE);
        Subject four = Subject.made("thread { } thread { } thread { } thread { stop; }");
        due("the last of four", isPlace ? four.place(0, 3) : four.waits(0, 3), 0);
        due("behind four", isPlace ? four.place(0, 4) : four.waits(0, 4), NONE);
    }

    private static void owner() {
        Probe.sentence("Promise 11: The owner of a lock in a state, -1 without.");
        Subject x = Subject.made("lock m; lock n; thread { take n; take m; give n; give n; }");
        int[][] owners = {{-1, -1}, {-1, 0}, {0, 0}, {0, -1}, {0, -1}};
        for (int state = 0; state < owners.length; state++) {
            due("owner of m in " + state, x.owner(state, 0), owners[state][0]);
            due("owner of n in " + state, x.owner(state, 1), owners[state][1]);
        }
        x = Subject.made("lock k; lock l; lock m; lock n; thread { } thread { } thread { } thread { take n; }");
        due("the last thread owns the last lock", x.owner(1, 3), 3);
        due("nobody owns the first", x.owner(1, 0), -1);
        due("none behind four", x.owner(1, 4), NONE);
        Probe.sentence("Promise 11: NONE if there is no such lock or state.");
        x = sized();
        due("the last lock of the last state", x.owner(1, 2), -1);
        for (int outside = 3; outside < 40; outside++) {
            due("lock " + outside, x.owner(0, outside), NONE);
            due("state " + (outside - 1), x.owner(outside - 1, 0), NONE);
        }
        for (int outside : NOWHERE) {
            due("lock " + outside, x.owner(0, outside), NONE);
            due("state " + outside, x.owner(outside, 0), NONE);
            due("without a program", new Subject().owner(outside, outside), NONE);
        }
        due("without a program", new Subject().owner(0, 0), NONE);
        due("without a lock", Subject.made("var x; thread { }").owner(0, 0), NONE);
    }

    private static void waits() {
        Probe.sentence("Promise 12: 0, 1 if a thread waits in a state, 2 if it is woken.");
        Subject x = Subject.made("lock m; thread { take m; wait m; stop; } thread { take m; wake m; give m; }");
        due("at first", x.waits(0, 0), 0);
        due("before its wait", x.waits(x.next(0, 0), 0), 0);
        int waiting = x.next(x.next(0, 0), 0);
        due("waits", x.waits(waiting, 0), 1);
        due("the other does not", x.waits(waiting, 1), 0);
        int taken = x.next(waiting, 0);
        due("still waits", x.waits(taken, 0), 1);
        int woken = x.next(taken, 0);
        due("woken", x.waits(woken, 0), 2);
        due("the other is not", x.waits(woken, 1), 0);
        int given = x.next(woken, 0);
        due("still woken", x.waits(given, 0), 2);
        int again = x.next(given, 0);
        due("waits no more", x.waits(again, 0), 0);
        due("ended", x.waits(x.next(again, 0), 0), 0);
        Probe.sentence("Promise 12: NONE as for place.");
        x = sized();
        due("the last thread of the last state", x.waits(1, 1), 0);
        noSuchThread(x, false);
    }

    private static void leads(String text, int state, int... dues) {
        Subject x = Subject.made(text);
        for (int k = 0; k < dues.length; k++) {
            due("next " + state + " " + k + " of " + text, x.next(state, k), dues[k]);
        }
        due("next " + state + " " + dues.length + " of " + text, x.next(state, dues.length), NONE);
        due("next " + state + " -1 of " + text, x.next(state, -1), NONE);
    }

    private static void next() {
        Probe.sentence("Promise 13: The k-th state, from 0, to which steps lead from a state, in the order of the steps");
        String four = "var a; thread { stop; } thread { a = 1; } thread { a = a; } thread { assert a; }";
        leads(four, 0, 1, 2, 3, 4);
        // Where thread 1 has set a, the others go on; thread 0 and 2 came to 5 and 6 from state 1.
        String two = "var a; var b; thread { a = 1; } thread { b = 1; }";
        leads(two, 0, 1, 2);
        leads(two, 1, 3);
        leads(two, 2, 3);
        leads("thread { while (1) { stop; } } thread { stop; }", 0, 1, 2);
        Probe.sentence("Promise 13: (one to which two lead twice)");
        String loops = "thread { while (1) { } } thread { while (1) { } } thread { stop; }";
        leads(loops, 0, 0, 0, 1);
        leads(loops, 1, 1, 1);
        leads("thread { while (1) { } } thread { stop; } thread { while (1) { } } thread { while (1) { } }", 0, 0, 1, 0, 0);
    }

    private static void nextNone() {
        Probe.sentence("Promise 13: NONE if there is none.");
        leads("thread { }", 0);
        leads("thread { stop; }", 1);
        leads("thread { assert 0; }", 1);
        leads("lock m; thread { take m; take m; }", 1);
        Subject x = Subject.made("var x; thread { stop; } thread { x = 1; } thread { x = 2; } thread { x = 3; }");
        due("the last of four", x.next(0, 3), 4);
        for (int k = 4; k < 40; k++) {
            due("behind the last of four", x.next(0, k), NONE);
        }
        due("states", x.count(0) > 4 ? 1 : 0, 1);
        int states = x.count(0);
        due("the last state is an end", x.next(states - 1, 0), NONE);
        due("no such state", x.next(states, 0), NONE);
        for (int outside : NOWHERE) {
            due("step " + outside, x.next(0, outside), NONE);
            due("state " + outside, x.next(outside, 0), NONE);
            due("without states", new Subject().next(outside, 0), NONE);
        }
        due("without states", new Subject().next(0, 0), NONE);
        x = Subject.made(STATES_800);
        due("to the last of 800", x.next(798, 0), 799);
        due("no second step", x.next(798, 1), NONE);
        due("from the last of 800", x.next(799, 0), NONE);
        due("from none", x.next(800, 0), NONE);
    }

    private static void outcomes(String text, int variable, int least, int greatest, int different) {
        Subject x = Subject.made(text);
        due("least in ends of " + text, x.outcome(variable, 0), least);
        due("greatest in ends of " + text, x.outcome(variable, 1), greatest);
        due("different in ends of " + text, x.outcome(variable, 2), different);
    }

    private static void outcome() {
        Probe.sentence("Promise 14: Of a variable in all ends, what 0: its least value, 1: its greatest, 2: how many different ones.");
        String lost = "var x; var y = -3; thread { local a; a = x; x = a + 1; } thread { local a; a = x; x = a + 1; }";
        outcomes(lost, 0, 1, 2, 2);
        outcomes(lost, 1, -3, -3, 1);
        outcomes("var x = 4; thread { }", 0, 4, 4, 1);
        outcomes("var x = -1; thread { } thread { }", 0, -1, -1, 1);
        outcomes("var x; thread { x = -127 - 1; } thread { x = 127; }", 0, -128, 127, 2);
        outcomes("var x; thread { x = 0 - 1; } thread { x = 0; } thread { x = 1; }", 0, -1, 1, 3);
        // Thread 0 may be stopped behind any number of rounds.
        String rounds = "var go = 1; var x = START; thread { while (go) { x = x + 2; } } thread { go = 0; }";
        outcomes(rounds.replace("START", "0"), 1, -128, 126, 128);
        outcomes(rounds.replace("START", "1"), 1, -127, 127, 128);
        due("states of such rounds", Subject.made(rounds.replace("START", "0")).count(0), 5 * 128);
        // One object is asked for one variable behind the other, and for another program.
        Subject x = Subject.made("var a = 1; var b = 2; thread { a = 3; } thread { a = 4; }");
        due("different of a", x.outcome(0, 2), 2);
        due("different of b", x.outcome(1, 2), 1);
        due("greatest of b", x.outcome(1, 1), 2);
        due("least of a", x.outcome(0, 0), 3);
        due("least of b", x.outcome(1, 0), 2);
        due("another program", x.check("var a = 9; thread { }"), NONE);
        due("least then", x.outcome(0, 0), 9);
        due("greatest then", x.outcome(0, 1), 9);
        due("different then", x.outcome(0, 2), 1);
        // What comes in an error or in a deadlock does not count.
        outcomes("var x; thread { x = 1; } thread { if (x) { x = 9; assert 0; } }", 0, 1, 1, 1);
        outcomes("var x; lock m; thread { x = 1; } thread { if (x) { take m; x = 9; take m; } }", 0, 1, 1, 1);
        outcomes("var x; thread { x = 9; x = 5; x = 7; }", 0, 7, 7, 1);
    }

    private static void outcomeNone() {
        Probe.sentence("Promise 14: 1000 if there is no such variable or end, or another what.");
        outcomes("var x; thread { x = 1; assert 0; } thread { x = 2; }", 0, 1000, 1000, 1000);
        outcomes("var x = 3; thread { while (1) { } }", 0, 1000, 1000, 1000);
        outcomes("var x = 3; lock m; thread { take m; take m; }", 0, 1000, 1000, 1000);
        outcomes("var x = 3; thread { }", 1, 1000, 1000, 1000);
        outcomes("thread { local a; }", 0, 1000, 1000, 1000);
        Subject x = sized();
        due("the last variable", x.outcome(1, 1), 6);
        due("the last what", x.outcome(1, 2), 1);
        for (int outside = 2; outside < 40; outside++) {
            due("variable " + outside, x.outcome(outside, 0), 1000);
            due("what " + (outside + 1), x.outcome(0, outside + 1), 1000);
        }
        for (int outside : NOWHERE) {
            due("variable " + outside, x.outcome(outside, 0), 1000);
            due("variable " + outside, x.outcome(outside, 2), 1000);
            due("what " + outside, x.outcome(0, outside), 1000);
            due("without a program", new Subject().outcome(outside, outside), 1000);
        }
    }

    private static void races(String why, String text, int want) {
        due(why + ": race 0 of " + text, Subject.made(text).race(0), want);
    }

    private static void race() {
        Probe.sentence("Promise 15: the least state, no error, in which two ready threads have steps next (not woken ones)"
            + " that have a variable in them, one of them NAME = EXPR with it as NAME.");
        races("write, write", "var x; thread { x = 1; } thread { x = 2; }", 0);
        races("write, read", "var x; thread { x = 1; } thread { local a; a = x; }", 0);
        races("read, write", "var x; thread { assert 1 - x; } thread { x = 2; }", 0);
        races("if", "var x; thread { if (x) { } } thread { x = 2; }", 0);
        races("while", "var x; thread { x = 2; } thread { while (0 && x) { } }", 0);
        races("read to another variable", "var x; var y; thread { y = x; } thread { x = 2; }", 0);
        races("deep in an EXPR", "var x; var y; thread { y = 1 + -(2 * !x); } thread { x = 2; }", 0);
        races("not the first two threads", "var x; thread { } thread { x = 1; } thread { assert 1; } thread { x = 2; }", 0);
        races("two read, one writes", "var x; thread { assert !x; } thread { assert !x; } thread { x = 2; }", 0);
        Subject x = Subject.made("var x; var y; thread { y = 1; x = y; } thread { y = y; x = x; }");
        due("race of y", x.race(1), 0);
        due("race of x", x.race(0), x.next(x.next(0, 0), 1));
        races("the second state", "var x; thread { stop; } thread { assert 1; x = 1; } thread { x = 2; }", 2);
        x = Subject.made("var x; lock m; thread { take m; wait m; x = 1; } thread { take m; wake m; give m; x = 2; }");
        int race = x.race(0);
        due("thread 0 is behind its wait", x.place(race, 0), 2);
        due("thread 1 is at its write", x.place(race, 1), 6);
        due("thread 0 is no more woken", x.waits(race, 0), 0);
        String eight = "var a; var b; var c; var d; var e; var f; var g; var h; ";
        for (int variable = 0; variable < 8; variable++) {
            char name = (char) ('a' + variable);
            String writes = "thread { " + name + " = 1; } ";
            for (String user : new String[] {writes, "thread { assert !" + name + "; }", "thread { local i; i = " + name + "; }"}) {
                x = Subject.made(eight + writes + user);
                for (int other = 0; other < 8; other++) {
                    due("race " + other + " of " + writes + user, x.race(other), other == variable ? 0 : NONE);
                }
            }
        }
    }

    private static void raceNone() {
        Probe.sentence("Promise 15: NONE if there is none, or no such variable.");
        races("read, read", "var x; thread { if (x) { } } thread { assert !x; }", NONE);
        races("one thread", "var x; thread { x = x + 1; }", NONE);
        races("hidden", "var x; thread { local x; x = 1; } thread { x = 2; }", NONE);
        races("hidden in an EXPR", "var x; thread { local x; assert !x; } thread { x = 2; }", NONE);
        races("others", "var x; var y; thread { x = 1; } thread { y = 2; }", NONE);
        races("write of another with a read of both", "var x; var y; thread { y = x; } thread { y = x; }", NONE);
        races("a block is no part of its if", "var x; thread { if (0) { x = 1; } } thread { x = 2; }", NONE);
        races("never at once", "var x; thread { assert 0; x = 1; } thread { x = 2; }", NONE);
        races("one has ended", "var x; thread { x = 1; } thread { }", NONE);
        races("one thread with all locks", "var x; lock k; lock l; lock m; lock n;"
            + " thread { x = 1; take n; take m; take l; take k; assert x; x = x; }", NONE);
        String body = "take m; x = x + 1; give m; ";
        races("guarded", "var x; lock m; thread { " + body + "} thread { " + body + "}", NONE);
        // What stands elsewhere in a thread is no part of its next step.
        String reads = "thread { take m; assert !x || 1; give m; assert 1; } ";
        String writes = "thread { take m; x = 1; give m; assert 1; } ";
        races("read and write guarded", "var x; lock m; " + reads + writes, NONE);
        races("write and read guarded", "var x; lock m; " + writes + reads, NONE);
        Subject used = Subject.made("var x; var y; thread { x = 1; y = x; x = y; } thread { y = x; x = y; y = 1; }");
        for (int round = 0; round < 3; round++) {
            String free = "var x; lock m; thread { take m; give m; stop; } thread { x = 1; x = 2; stop; }";
            due("check", used.check(free), NONE);
            due("nothing is left of another program", used.race(0), NONE);
        }
        Subject x = Subject.made("var x; var y; thread { x = 1; y = 1; } thread { x = 2; y = 2; }");
        Probe.holds("the last variable", x.race(1) != NONE);
        for (int outside = 2; outside < 70; outside++) {
            due("variable " + outside, x.race(outside), NONE);
        }
        for (int outside : NOWHERE) {
            due("variable " + outside, x.race(outside), NONE);
            due("without a program", new Subject().race(outside), NONE);
        }
        due("without a program", new Subject().race(0), NONE);
    }
}
