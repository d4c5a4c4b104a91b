import java.util.ArrayList;
import java.util.List;
import java.util.Random;

/**
 * The terms of the document that tell of texts, sentence by sentence: which are programs, and where
 * the fault of the others is. '^' stands before the place that is due, and is no part of the text.
 */
public final class ScheduleCheckGrammar {
    private static final int NONE = -2;
    private static final String[] WORDS =
        "var lock thread local take give wait wake all assert if else while stop".split(" ");

    public static void main(String[] args) {
        longestTokens();
        blanks();
        nameTokens();
        words();
        numberTokens();
        signs();
        foreignBytes();
        program();
        variables();
        locks();
        threadLimit();
        numbering();
        thread();
        localLimit();
        sharedNames();
        localNames();
        hiding();
        statementNumbers();
        statementLimit();
        assignment();
        lockUses();
        assertAndStop();
        conditions();
        blockLimit();
        binding();
        compareOnce();
        sums();
        atoms();
        atomDepth();
        atomLimit();
        firstFault();
        ownFaults();
        byteFaults();
        endFaults();
        everyCut();
        shuffledTokens();
        Probe.finish("ScheduleCheckGrammar");
    }

    private static void bad(String marked) {
        int place = marked.indexOf('^');
        String text = marked.substring(0, place) + marked.substring(place + 1);
        Probe.due("check of " + marked, new Subject().check(text), place);
    }

    private static void good(String text) {
        Probe.due("check of " + text, new Subject().check(text), NONE);
    }

    private static void goodBody(String body) {
        good("var x; var y; lock m; thread { local a; " + body + " }");
    }

    private static void badBody(String marked) {
        bad("var x; var y; lock m; thread { local a; " + marked + " }");
    }

    private static void counts(String text, int what, int want) {
        Probe.due("count " + what + " of " + text, Subject.made(text).count(what), want);
    }

    private static void is(String expression, int want) {
        Subject x = Subject.made("var a = 2; var b = 3; var r = 99; thread { local n; r = " + expression + "; }");
        Probe.due(expression, x.value(1, 2), want);
    }

    private static void longestTokens() {
        Probe.sentence("TOKENS of a text, each as long as can be");
        good("var x;lock m;thread{local a;a=x;take m;while(a<=x){wake all m;}give m;}");
        goodBody("x=x<=y;x=x>=y;x=x!=y;x=x==y;x=x<y;x=x>y;x=x&&y;x=x||y;x=x+y-y*x;x=!x;x=-x;");
        goodBody("x=!!x;x=--x;x=- -x;x=x--x;x=x!=!x;x=!-x;x=x<=-1;x=x>=-1;x=x==!y;x=x&&!y;x=x||-y;x=x<-y;x=x>!y;");
        badBody("x ^== 1;");
        badBody("x = x ^= = y;");
        badBody("x=x==^=y;");
        badBody("x=x!=^=y;");
        badBody("x=x<=^=y;");
        badBody("x=x>=^=y;");
        badBody("x=x<^>y;");
        badBody("x=x<^<y;");
        badBody("x=x^=<y;");
        badBody("x=x^=>y;");
        badBody("x=^!=y;");
        badBody("x=x < ^= y;");
        badBody("x=x ^! = y;");
        badBody("x=x&&^&y;");
        badBody("x=x||^|y;");
        badBody("x=x&&^&&y;");
        bad("^varx; thread { }");
        bad("^va r x; thread { }");
        bad("^thread1 { }");
        bad("var x; thread { ^stop1; }");
        bad("lock m; thread { ^takem; }");
        bad("lock m; thread { ^wakeall m; }");
        bad("thread { ^locala; }");
        bad("thread { if (1) { } ^elsea { } }");
        bad("var x = 12^ab; thread { }");
        bad("var x = 1 ^2; thread { }");
        bad("var ^1a; thread { }");
        good("var a1; var a11; thread { a1 = a11; }");
    }

    private static void blanks() {
        Probe.sentence("with blanks (32) and byte 10 between where one likes");
        good("\n \n var\nx\n=\n-\n5\n;\nlock\nm\n;\n\n\nthread\n{\nlocal\na\n;\nwake\nall\nm\n;\n}\n \n");
        good("  var   x  =  -  5  ;  thread  {  x  =  (  x  +  1  )  *  2  ;  }  ");
        good("thread{}");
        good("thread{ }");
        good(" ".repeat(1592) + "thread{}");
        good("thread{}" + "\n".repeat(1592));
        good("thread" + " \n".repeat(796) + "{}");
        for (char one : new char[] {0, 1, 8, 9, 11, 12, 13, 14, 31, 127, 128, 133, 138, 160, 255}) {
            bad("var^" + one + "x; thread { }");
            bad("thread {^" + one + "}");
            bad("^" + one + "thread { }");
            bad("thread { }^" + one);
        }
        bad("^th read { }");
        badBody("x = 12 ^7;");
        badBody("x = x ^& & y;");
    }

    private static void nameTokens() {
        Probe.sentence("NAME: a small letter, then small letters and digits, at most 8");
        good("var a; var z; var a0; var z9; var az; var a0z9; thread { a = z + a0 + z9 + az + a0z9; }");
        good("var abcdefgh; thread { abcdefgh = 1; }");
        bad("var ^abcdefghi; thread { }");
        good("var a1234567; thread { }");
        bad("var ^a12345678; thread { }");
        bad("lock ^abcdefghi; thread { }");
        bad("thread { local ^abcdefghi; }");
        bad("thread { ^abcdefghi = 1; }");
        badBody("x = ^abcdefghi;");
        badBody("take ^abcdefghi;");
        bad("^" + "a".repeat(1600));
        bad("^abcdefghijklmnop");
        // All eight count, and a ninth is no way to the name of eight.
        Subject x = Subject.made("var abcdefgh; var abcdefgi; var bbcdefgh; thread { abcdefgi = 1; bbcdefgh = 2; abcdefgh = 3; }");
        Probe.due("the first", x.value(3, 0), 3);
        Probe.due("the last letter is another", x.value(3, 1), 1);
        Probe.due("the first letter is another", x.value(3, 2), 2);
        bad("var abcdefgh; thread { ^abcdefghi = 1; }");
        bad("var abcdefgh; var ^abcdefgh; thread { }");
        bad("var a; thread { ^aa = 1; }");
        bad("var ^0a; thread { }");
        bad("var ^9; thread { }");
        for (char one : new char[] {'A', 'Z', '@', '[', '`', '/', ':', '_', '$', '.', '~', 0xdf, 0xe4, 0xff}) {
            bad("var ^" + one + "; thread { }");
            bad("var x^" + one + "; thread { }");
            bad("var x^" + one + "y; thread { }");
        }
    }

    private static void words() {
        Probe.sentence("not the words var lock thread local take give wait wake all assert if else while stop");
        for (String word : WORDS) {
            bad("var ^" + word + "; thread { }");
            bad("lock ^" + word + "; thread { }");
            bad("thread { local ^" + word + "; }");
            badBody("x = ^" + word + ";");
            badBody("take ^" + word + ";");
            String longer = word + "s";
            String shorter = word.substring(0, word.length() - 1);
            good("var " + longer + "; thread { " + longer + " = 1; }");
            good("lock " + longer + "; thread { take " + longer + "; }");
            good("thread { local " + shorter + "; " + shorter + " = " + shorter + "; }");
            good("var " + word + "1; thread { " + word + "1 = 1; }");
            good("var a" + word + "; thread { a" + word + " = 1; }");
        }
        badBody("^all = 1;");
        badBody("^else = 1;");
        badBody("^var = 1;");
    }

    private static void firstValue(String number, int want) {
        String text = "var x = " + number + "; thread { }";
        Probe.due("value of " + number, Subject.made(text).value(0, 0), want);
    }

    private static void numberTokens() {
        Probe.sentence("NUMBER: digits, at most 127 (0s in front count for nothing)");
        firstValue("0", 0);
        firstValue("9", 9);
        firstValue("10", 10);
        firstValue("126", 126);
        firstValue("127", 127);
        firstValue("-127", -127);
        firstValue("-0", 0);
        firstValue("000", 0);
        firstValue("0127", 127);
        firstValue("0000000010", 10);
        firstValue("0".repeat(1500) + "127", 127);
        firstValue("- " + "0".repeat(1500) + "1", -1);
        for (int number = 0; number <= 127; number++) {
            firstValue(Integer.toString(number), number);
        }
        String[] great = {"128", "129", "130", "199", "200", "255", "256", "257", "1000", "1270", "1280", "0128", "00000000128",
            "2147483647", "2147483648", "4294967295", "4294967296", "4294967297", "18446744073709551616", "18446744073709551617",
            "99999999999999999999999999999", "1" + "0".repeat(100)};
        for (String one : great) {
            bad("var x = ^" + one + "; thread { }");
            bad("var x = -^" + one + "; thread { }");
            badBody("x = ^" + one + ";");
            badBody("x = -^" + one + ";");
            badBody("if (^" + one + ") { }");
        }
        bad("var x = ^" + "0".repeat(1500) + "128; thread { }");
        is("127", 127);
        is("000127", 127);
        is("-127", -127);
    }

    private static void signs() {
        Probe.sentence("signs { } ( ) ; = + - * ! == != < <= > >= && ||.");
        String[] between = {"+", "-", "*", "==", "!=", "<", "<=", ">", ">=", "&&", "||"};
        for (String sign : between) {
            goodBody("x = y " + sign + " a;");
            goodBody("x=y" + sign + "a;");
            badBody("x = y " + sign + " ^;");
            badBody("x = y " + sign + " ^) ;");
        }
        goodBody("x = ( - ( ! ( y ) ) ) ;");
        badBody("x = x ^& y;");
        badBody("x = x ^| y;");
        badBody("x = x ^&");
        badBody("x = x ^|");
        badBody("x = ^& y;");
        badBody("x = x ^/ y;");
        badBody("x = x ^% y;");
        badBody("x = x ^, y;");
        badBody("x = ^~y;");
        bad("thread { } ^&");
        bad("thread { } ^=");
        bad("thread ^[ ]");
        bad("thread ^< >");
    }

    /** Every byte that is no part of a token is a fault wherever it stands, the byte 0 among them. */
    private static void foreignBytes() {
        String known = "{}();=+-*!<>&| \nabcdefghijklmnopqrstuvwxyz0123456789";
        for (char one = 0; one < 256; one++) {
            if (known.indexOf(one) < 0 && one != '^') {
                bad("var x; thread { x = 1 ^" + one + "+ 1; }");
                bad("var x; thread { x ^" + one + "= 1; }");
                bad("var x; thread { } ^" + one);
                bad("^" + one);
            }
        }
        Probe.due("fault at '^'", new Subject().check("thread { ^"), 9);
    }

    private static void program() {
        Probe.sentence("{ var NAME [ = [-] NUMBER ] ; or lock NAME ; } THREAD { THREAD }, and nothing more");
        good("thread { }");
        good("var x; thread { }");
        good("lock m; thread { }");
        good("thread { } thread { }");
        good("var x = 127; var y = -127; var z = - 0; lock m; var w=\n-\n1;thread{}");
        good("lock m; var x; lock n; var y; thread { } thread { }");
        bad("^x");
        bad("^;");
        bad("^{ }");
        bad("var ^;");
        bad("var ^5; thread { }");
        bad("var x ^thread { }");
        bad("var x = ^; thread { }");
        bad("var x = ^y; thread { }");
        bad("var x; var y = ^x; thread { }");
        bad("var x = -^-5; thread { }");
        bad("var x = ^+5; thread { }");
        bad("var x = ^!5; thread { }");
        bad("var x = ^(5); thread { }");
        bad("var x = -^; thread { }");
        bad("var x = 5 ^+ 1; thread { }");
        bad("var x = 5 ^5; thread { }");
        bad("var x ^- 5; thread { }");
        bad("var x ^== 5; thread { }");
        bad("var x^, y; thread { }");
        bad("var x ^y; thread { }");
        bad("var x; ^; thread { }");
        bad("lock m ^= 1; thread { }");
        bad("lock ^lock; thread { }");
        bad("lock ^5; thread { }");
        bad("lock m ^n; thread { }");
        bad("var x; ^local y; thread { }");
        bad("var x; ^x = 1; thread { }");
        bad("thread { } ^var x;");
        bad("thread { } ^lock x;");
        bad("thread { } ^}");
        bad("thread { } ^;");
        bad("thread { } ^x");
        bad("thread { } ^{ }");
        bad("thread { } ^local x;");
        bad("thread { } ^stop;");
        bad("thread { } thread { } ^5");
    }

    private static final String EIGHT = "var a; var b; var c; var d; var e; var f; var g; var h; ";
    private static final String FOUR = "lock k; lock l; lock m; lock n; ";

    private static void variables() {
        Probe.sentence("at most 8 VARIABLES (0 without a number)");
        counts("thread { }", 6, 0);
        counts("var a; thread { }", 6, 1);
        counts(EIGHT + "thread { }", 6, 8);
        counts(FOUR + EIGHT + "thread { }", 6, 8);
        bad(EIGHT + "var ^i; thread { }");
        bad(EIGHT + "var ^i = 5; thread { }");
        bad(EIGHT + FOUR + "var ^i; thread { }");
        bad(FOUR + EIGHT + "var ^o; thread { }");
        bad(EIGHT + "var ^a; thread { }");
        bad(EIGHT + "var ^= 1; thread { }");
        bad(EIGHT + "var ^");
        Subject x = Subject.made("var a; var b = 0; var c = 7; var d; thread { }");
        Probe.due("without a number", x.value(0, 0), 0);
        Probe.due("with 0", x.value(0, 1), 0);
        Probe.due("with a number", x.value(0, 2), 7);
        Probe.due("without one behind it", x.value(0, 3), 0);
        // A variable that had a number in the program before has none now.
        x.check("var a = 5; var b = 6; thread { }");
        x.check("var a; var b; thread { }");
        Probe.due("without a number", x.value(0, 0) * 100 + x.value(0, 1), 0);
    }

    private static void locks() {
        Probe.sentence("4 LOCKS");
        counts("thread { }", 7, 0);
        counts("lock m; thread { }", 7, 1);
        counts(FOUR + "thread { }", 7, 4);
        counts(EIGHT + FOUR + "thread { }", 7, 4);
        bad(FOUR + "lock ^o; thread { }");
        bad(EIGHT + FOUR + "lock ^o; thread { }");
        bad(FOUR + EIGHT + "lock ^o; thread { }");
        bad(FOUR + "lock ^k; thread { }");
        bad(FOUR + "lock ^; thread { }");
        bad(FOUR + "lock^");
    }

    private static void threadLimit() {
        Probe.sentence("4 THREADS");
        String threads = "thread { } thread { } thread { } ";
        counts("thread { }", 5, 1);
        counts(threads, 5, 3);
        counts(threads + "thread { }", 5, 4);
        bad(threads + "thread { } ^thread { }");
        bad(threads + "thread { } ^thread");
        bad(threads + "thread { } ^thread { } thread { }");
        bad("var x;^");
        bad("lock m; ^");
    }

    private static void numbering() {
        Probe.sentence("numbered from 0 as they come.");
        Subject x = Subject.made("lock m; var a = 1; lock n; var b = 2; lock o; var c = 3; thread { take n; } thread { c = 4; } thread { }");
        Probe.due("variable 0", x.value(0, 0), 1);
        Probe.due("variable 1", x.value(0, 1), 2);
        Probe.due("variable 2", x.value(0, 2), 3);
        Probe.due("lock 0", x.owner(1, 0), -1);
        Probe.due("lock 1", x.owner(1, 1), 0);
        Probe.due("lock 2", x.owner(1, 2), -1);
        Probe.due("thread 0", x.look(1, 1), 0);
        Probe.due("thread 1", x.look(2, 1), 1);
        Probe.due("what thread 1 did", x.value(2, 2), 4);
        Probe.due("thread 2 has nothing to do", x.place(0, 2), -1);
    }

    private static void thread() {
        Probe.sentence("THREAD: thread \"{\" { local NAME ; } { STATEMENT } \"}\"");
        good("thread { }");
        good("thread { local a; }");
        good("thread { stop; }");
        good("thread { local a; local b; a = b; stop; }");
        bad("thread ^x { }");
        bad("thread ^( )");
        bad("thread ^thread { }");
        bad("thread ^;");
        bad("thread { ^{ } }");
        bad("thread { ^thread { } }");
        bad("thread { ^var x; }");
        bad("thread { ^lock x; }");
        bad("thread { ^; }");
        bad("thread { ^( }");
        bad("thread { local ^; }");
        bad("thread { local ^5; }");
        bad("thread { local a ^= 1; }");
        bad("thread { local a ^}");
        bad("thread { local a ^b; }");
        bad("thread { stop; ^local a; }");
        bad("thread { if (1) { ^local a; } }");
    }

    private static void localLimit() {
        Probe.sentence("at most 3 LOCALS, 0 at first.");
        String three = "thread { local a; local b; local c; } ";
        good(three);
        bad("thread { local a; local b; local c; local ^d; }");
        bad("thread { local a; local b; local c; local ^c; }");
        bad("thread { local a; local b; local c; local ^; }");
        bad("thread { local a; local b; local c; local^");
        bad(three + "thread { local a; local b; local c; local ^d; }");
        Subject x = Subject.made(three + three + three + three);
        for (int thread = 0; thread < 4; thread++) {
            for (int k = 0; k < 3; k++) {
                Probe.due("local " + k + " of " + thread, x.local(0, thread, k), 0);
            }
            Probe.due("local 3 of " + thread, x.local(0, thread, 3), 1000);
        }
        // A local is 0 at first, though a program before had another one there.
        x = Subject.made("thread { local a; a = 5; }");
        x.check("thread { local a; }");
        Probe.due("behind another program", x.local(0, 0, 0), 0);
    }

    private static void sharedNames() {
        Probe.sentence("Names of variables and locks are all different");
        good("var x; var y; lock z; lock w; thread { }");
        bad("var x; var ^x; thread { }");
        bad("var x; lock ^x; thread { }");
        bad("lock m; lock ^m; thread { }");
        bad("lock m; var ^m; thread { }");
        bad("var a; var b; lock c; var d; lock e; var ^a; thread { }");
        bad("var a; var b; lock c; var d; lock e; lock ^e; thread { }");
        bad("var a; var b; lock c; var d; lock e; lock ^b; thread { }");
        good("var x; var xx; var x0; lock x1; lock xxx; thread { }");
        // As many as there may be, with a thread's locals behind them.
        good(EIGHT + FOUR + "thread { local o; local p; local q; a = h + o; take k; give n; } thread { local a; local k; local q; }");
        good(FOUR + EIGHT + "thread { local o; local p; local q; q = h; }");
        bad(EIGHT + FOUR + "thread { local o; local p; local q; local ^r; }");
        bad(EIGHT + FOUR + "thread { local o; local p; local ^o; }");
    }

    private static void localNames() {
        Probe.sentence("a local's are different from each other in the thread");
        good("thread { local a; local b; local c; }");
        bad("thread { local a; local ^a; }");
        bad("thread { local a; local b; local ^a; }");
        bad("thread { local a; local b; local ^b; }");
        bad("var x; thread { local x; local ^x; }");
        good("thread { local a; local b; } thread { local a; local b; }");
        good("thread { local a; } thread { local b; local a; } thread { local a; }");
    }

    private static void hiding() {
        Probe.sentence("it hides others there.");
        Subject x = Subject.made("var v = 9; thread { local v; v = v + 1; } thread { v = v + 1; }");
        Probe.due("the local", x.local(1, 0, 0), 1);
        Probe.due("the variable is hidden", x.value(1, 0), 9);
        Probe.due("not in another thread", x.value(2, 0), 10);
        good("lock m; thread { local m; m = m; } thread { take m; }");
        bad("lock m; thread { local m; take ^m; }");
        bad("lock m; thread { local m; wake all ^m; }");
        bad("lock m; thread { local m; } thread { ^m = 1; }");
        bad("lock m; thread { take m; } thread { local m; give ^m; }");
        bad("thread { local a; local b; } thread { local c; ^a = c; }");
        bad("thread { local a; local b; } thread { local c; c = ^b; }");
        bad("thread { local a; a = ^b; } thread { local b; }");
        good("var x; lock m; thread { local x; local m; local a; x = 1; m = 2; a = 3; } thread { local a; take m; }");
    }

    private static void statementNumbers() {
        Probe.sentence("STATEMENT, numbered from 0 as they begin");
        // if 0 { x 1, while 2 { x 3 }, x 4 } else { x 5 } x 6; next thread 7
        Subject x = Subject.made("var x = 1; thread { if (x) { x = 2; while (x < 3) { x = 3; } x = 4; } else { x = 5; } x = 6; } thread { stop; }");
        int[] places = {0, 1, 2, 3, 2, 4, 6, -1};
        int state = 0;
        for (int place : places) {
            Probe.due("place", x.place(state, 0), place);
            Probe.due("of the other", x.place(state, 1), 7);
            state = x.next(state, 0);
        }
        Probe.due("statements", x.count(8), 8);
    }

    private static void statementLimit() {
        Probe.sentence("at most 50");
        counts("thread { }", 8, 0);
        counts("thread { " + "stop; ".repeat(49) + "}", 8, 49);
        counts("thread { " + "stop; ".repeat(50) + "}", 8, 50);
        counts("thread { " + "stop; ".repeat(30) + "} thread { " + "stop; ".repeat(20) + "}", 8, 50);
        counts("thread { " + "stop; ".repeat(48) + "if (1) { stop; } }", 8, 50);
        counts("thread { " + "stop; ".repeat(49) + "if (1) { } else { } }", 8, 50);
        counts("thread { " + "stop; ".repeat(49) + "while (1) { } }", 8, 50);
        String fifty = "var x; lock m; thread { " + "stop; ".repeat(50);
        for (String one : new String[] {"stop; }", "x = 1; }", "z = 1; }", "take m; }", "give m; }", "wait m; }", "wake m; }",
            "wake all m; }", "assert 1; }", "if (1) { } }", "while (1) { } }", "stop", ";", "{ }", "x"}) {
            bad(fifty + "^" + one);
        }
        bad("thread { " + "stop; ".repeat(30) + "} thread { " + "stop; ".repeat(20) + "^stop; }");
        bad("thread { " + "stop; ".repeat(50) + "} thread { ^stop; }");
        good("thread { " + "stop; ".repeat(50) + "} thread { }");
        bad("thread { " + "stop; ".repeat(49) + "if (1) { ^stop; } }");
        bad("thread { " + "stop; ".repeat(49) + "while (1) { ^stop; } }");
        bad("thread { " + "stop; ".repeat(48) + "if (1) { stop; } else { ^stop; } }");
    }

    private static void assignment() {
        Probe.sentence("NAME = EXPR ; (a variable or local)");
        goodBody("x = 1; a = 2; y = a;");
        badBody("^z = 1;");
        badBody("^m = 1;");
        badBody("^5 = 1;");
        badBody("^5;");
        badBody("^;");
        badBody("x ^;");
        badBody("x ^x;");
        badBody("x ^+ 1;");
        badBody("x = ^;");
        badBody("x = 1 ^x = 2;");
        badBody("x = y ^= 2;");
        badBody("x = 1 ^}");
    }

    private static void lockUses() {
        Probe.sentence("or take NAME ; give NAME ; wait NAME ; wake NAME ; wake all NAME ; (locks)");
        for (String use : new String[] {"take", "give", "wait", "wake", "wake all"}) {
            goodBody(use + " m;");
            badBody(use + " ^x;");
            badBody(use + " ^a;");
            badBody(use + " ^z;");
            badBody(use + " ^5;");
            badBody(use + " ^;");
            badBody(use + " ^(m);");
            badBody(use + " m ^m;");
            badBody(use + " m ^}");
            badBody(use + " m ^= 1;");
            if (!use.equals("wake")) {
                badBody(use + " ^all m;");
            }
        }
        badBody("^all m;");
    }

    private static void assertAndStop() {
        Probe.sentence("or assert EXPR ; or stop ;");
        goodBody("assert x; assert (x); stop;");
        badBody("assert ^;");
        badBody("assert x ^= 1;");
        badBody("assert x ^}");
        badBody("assert ^stop;");
        badBody("stop ^x;");
        badBody("stop ^1;");
        bad("thread { stop ^}");
    }

    private static void conditions() {
        Probe.sentence("or if ( EXPR ) BLOCK [ else BLOCK ] or while ( EXPR ) BLOCK; BLOCK: \"{\" { STATEMENT } \"}\"");
        goodBody("if (x) { } if (x) { y = 1; } else { } if (x) { } else { y = 1; stop; } while (x) { } while (x) { stop; stop; }");
        badBody("if ^x { }");
        badBody("if (^) { }");
        badBody("if (x ^{ }");
        badBody("if (x) ^x = 1;");
        badBody("if (x) ^;");
        badBody("if (x) { } else ^x = 1;");
        badBody("if (x) { } else ^if (y) { }");
        badBody("if (x) { } else { } ^else { }");
        badBody("^else { }");
        badBody("while (x) { } ^else { }");
        badBody("while ^{ }");
        badBody("while ^x { }");
        badBody("while (x ^; ) { }");
        badBody("while (x) ^stop;");
        badBody("while (x) { } ^;");
        badBody("if (x) { }^;");
        badBody("if (x) { ^{ } }");
        badBody("if (x) { ^) }");
        badBody("^{ }");
    }

    private static void blockLimit() {
        Probe.sentence("at most 6 in one another.");
        String open = "if (1) { ";
        good("thread { " + open.repeat(5) + "stop; " + "} ".repeat(6));
        good("thread { " + open.repeat(6) + "stop; " + "} ".repeat(7));
        good("thread { " + "while (1) { ".repeat(6) + "stop; " + "} ".repeat(7));
        good("thread { " + "if (1) { } else { ".repeat(6) + "} ".repeat(7));
        bad("thread { " + open.repeat(6) + "if (1) ^{ " + "} ".repeat(8));
        bad("thread { " + open.repeat(6) + "while (1) ^{ " + "} ".repeat(8));
        bad("thread { " + "while (1) { ".repeat(6) + "if (1) ^{ " + "} ".repeat(8));
        bad("thread { " + "if (1) { } else { ".repeat(6) + "if (1) ^{ }" + "} ".repeat(7));
        bad("thread { " + open.repeat(6) + "if (1) ^stop; " + "} ".repeat(7));
        bad("thread { " + open.repeat(6) + "if (1^");
        bad("thread { " + open.repeat(6) + "if (1)^");
        // Those beside each other are not in one another, nor are those of two threads.
        good("thread { " + open.repeat(6) + "} ".repeat(6) + open.repeat(6) + "} ".repeat(7));
        good("thread { " + open.repeat(6) + "} else { stop; " + "} ".repeat(7));
        good("thread { " + open.repeat(6) + "} ".repeat(7) + "thread { " + open.repeat(6) + "} ".repeat(7));
        bad("thread { " + open.repeat(5) + "if (1) { } else { if (1) ^{ } }" + "} ".repeat(6));
        // From the innermost of six the way leads out again.
        Subject x = Subject.made("thread { " + open.repeat(6) + "assert 1; " + "} ".repeat(6) + "assert 2; }");
        Probe.due("in the innermost", x.place(6, 0), 6);
        Probe.due("behind all six", x.place(7, 0), 7);
    }

    private static void binding() {
        Probe.sentence("EXPR: AND { || AND }; AND: COMPARE { && COMPARE }; COMPARE: SUM [ SIGN SUM ],"
            + " SIGN: == != < <= > >=; SUM: PRODUCT { + PRODUCT, - PRODUCT }; PRODUCT: ATOM { \"*\" ATOM }");
        is("1 || 0 && 0", 1);
        is("(1 || 0) && 0", 0);
        is("0 && 0 || 1", 1);
        is("0 && (0 || 1)", 0);
        is("a == 2 && b == 3", 1);
        is("a == (2 && b)", 0);
        is("0 == 1 || 1", 1);
        is("0 == (1 || 1)", 0);
        is("a + 1 == b", 1);
        is("a + (1 == b)", 2);
        is("1 < a + b", 1);
        is("a < a * b", 1);
        is("a + b * a", 8);
        is("(a + b) * a", 10);
        is("a * b + a", 8);
        is("a * (b + a)", 10);
        is("b - a * b", -3);
        is("!a == 0", 1);
        is("!(a == 0)", 1);
        is("!a + 1", 1);
        is("!(a + 1)", 0);
        is("!0 * 5", 5);
        is("-a * b", -6);
        is("-a + b", 1);
        is("-(a + b)", -5);
        is("a*-b", -6);
        is("a--b", 5);
        is("a < b && b < a || a == 2 && 1", 1);
        is("1 || 1 || 0 || 0", 1);
        is("1 && 1 && 1 && 0", 0);
        for (String sign : new String[] {"==", "!=", "<", "<=", ">", ">="}) {
            boolean holds = sign.equals("!=") || sign.startsWith("<");
            is("a " + sign + " b", holds ? 1 : 0);
            is("a - 2 " + sign + " b * 1", holds ? 1 : 0);
        }
    }

    private static void compareOnce() {
        Probe.sentence("COMPARE: SUM [ SIGN SUM ]");
        String[] signs = {"==", "!=", "<", "<=", ">", ">="};
        for (String one : signs) {
            goodBody("x = x " + one + " y;");
            for (String two : signs) {
                badBody("x = x " + one + " y ^" + two + " a;");
                goodBody("x = (x " + one + " y) " + two + " a;");
                goodBody("x = x " + one + " (y " + two + " a);");
                goodBody("x = x " + one + " y && y " + two + " a;");
                goodBody("x = x " + one + " y || y " + two + " a;");
            }
        }
        badBody("if (x < y ^< a) { }");
        is("(3 < 2) < 1", 1);
        is("3 > (2 > 1)", 1);
    }

    private static void sums() {
        Probe.sentence("SUM: PRODUCT { + PRODUCT, - PRODUCT }");
        is("9 - 4 - 2", 3);
        is("9 - (4 - 2)", 7);
        is("9 - 4 + 2", 7);
        is("9 + 4 - 2 + 1 - 5", 7);
        is("9 - 2 * 3 - 1", 2);
        is("1 - 1 - 1 - 1 - 1 - 1", -4);
        is("2 * 3 * 4", 24);
        badBody("x = ^+x;");
        badBody("x = ^*x;");
        badBody("x = x + ^+ y;");
        badBody("x = x * ^* y;");
        badBody("x = x + ^;");
        goodBody("x = x - - y;");
    }

    private static void atoms() {
        Probe.sentence("ATOM: NUMBER, NAME (a variable or local), ( EXPR ), - ATOM, ! ATOM");
        goodBody("x = 1; x = y; x = a; x = (x || y); x = -1; x = -(1); x = !x; x = !-!-(x);");
        badBody("x = ^m;");
        badBody("x = ^z;");
        badBody("x = y + (y * -^m);");
        badBody("x = (^);");
        badBody("x = (x^;");
        badBody("x = (x ^x);");
        badBody("x = x^);");
        badBody("x = ((x)^;");
        badBody("x = x && ^|| y;");
        badBody("x = x ^(y);");
        badBody("x = x ^!y;");
        badBody("x = 1 ^2;");
        badBody("x = x ^y;");
        badBody("x = -^;");
        badBody("x = !^+x;");
        badBody("x = ^take;");
        badBody("x = ^{ x };");
        badBody("x = (x ^= 1);");
    }

    private static void atomDepth() {
        Probe.sentence("brackets, - and ! of ATOMS at most 8 deep");
        goodBody("x = " + "(".repeat(7) + "1" + ")".repeat(7) + ";");
        goodBody("x = " + "(".repeat(8) + "1" + ")".repeat(8) + ";");
        badBody("x = " + "(".repeat(8) + "^(1" + ")".repeat(9) + ";");
        goodBody("x = " + "-".repeat(8) + "1;");
        badBody("x = " + "-".repeat(8) + "^-1;");
        goodBody("x = " + "!".repeat(8) + "x;");
        badBody("x = " + "!".repeat(8) + "^!x;");
        goodBody("x = " + "-(!(".repeat(2) + "1" + "))".repeat(2) + ";");
        badBody("x = " + "-(!(".repeat(2) + "^-1" + "))".repeat(2) + ";");
        badBody("x = " + "-(!(".repeat(2) + "^!1" + "))".repeat(2) + ";");
        badBody("x = " + "-(!(".repeat(2) + "^(1)" + "))".repeat(2) + ";");
        badBody("x = " + "-(!(".repeat(2) + "1 + ^(1)" + "))".repeat(2) + ";");
        badBody("x = " + "(".repeat(8) + "1 + ^-1" + ")".repeat(8) + ";");
        goodBody("x = " + "(".repeat(8) + "1 - 1" + ")".repeat(8) + ";");
        badBody("x = " + "(".repeat(8) + "^;");
        // Those beside each other are not deep, nor do the brackets of if and while count.
        goodBody("x = (1) + (1) + (1) + (1) + (1) + (1) + (1) + (1) + (1) + (1) + -1;");
        goodBody("x = " + "(".repeat(7) + "(1) + (2) * -3" + ")".repeat(7) + ";");
        goodBody("if (" + "(".repeat(8) + "1" + ")".repeat(8) + ") { }");
        badBody("if (" + "(".repeat(8) + "^(1" + ")".repeat(9) + ") { }");
        goodBody("while (" + "!".repeat(8) + "1) { stop; }");
        badBody("while (" + "!".repeat(8) + "^!1) { stop; }");
        goodBody("assert " + "-".repeat(8) + "1;");
        badBody("assert " + "-".repeat(8) + "^-1;");
        is("(".repeat(8) + "a" + ")".repeat(8), 2);
        is("-".repeat(8) + "a", 2);
        is("-".repeat(7) + "a", -2);
        is("!".repeat(8) + "a", 1);
        is("!".repeat(7) + "a", 0);
    }

    private static void atomLimit() {
        Probe.sentence("at most 150 ATOMS that are NUMBERS or NAMES.");
        goodBody("x = 1" + "+x".repeat(148) + ";");
        goodBody("x = 1" + "+x".repeat(149) + ";");
        badBody("x = 1" + "+x".repeat(149) + "+^x;");
        badBody("x = 1" + "+x".repeat(149) + "+^1;");
        badBody("x = 1" + "+x".repeat(149) + "+^z;");
        badBody("x = 1" + "+x".repeat(149) + "+^;");
        badBody("x = 1" + "*(x" + "+x".repeat(148) + "+^x);");
        badBody("x = 1" + "+x".repeat(149) + "+-^1;");
        badBody("x = 1" + "+x".repeat(149) + "+(^1);");
        // Brackets and signs are no such ATOMS.
        goodBody("x = " + "--------1+".repeat(99) + "1;");
        goodBody("x = " + "(1)+".repeat(149) + "(x);");
        badBody("x = " + "(1)+".repeat(150) + "(^x);");
        // They are counted over the whole program; what stands before an EXPR, and a first value, is none.
        badBody("x = 1" + "+x".repeat(149) + "; y = -^1;");
        goodBody("x = 1" + "+x".repeat(148) + "; y = -1;");
        goodBody("x = 1" + "+x".repeat(149) + "; take m; give m; stop;");
        badBody("x = 1" + "+x".repeat(148) + "; assert 1; stop; if (^1) { }");
        badBody("x = 1" + "+x".repeat(148) + "; assert 1; stop; while (^x) { }");
        good("var q = 5; var x; thread { x = 1" + "+q".repeat(75) + "; } thread { x = 1" + "+q".repeat(73) + "; }");
        bad("var q = 5; var x; thread { x = 1" + "+q".repeat(75) + "; } thread { x = 1" + "+q".repeat(73) + "<^0; }");
        is("1" + "+1".repeat(126), 127);
        is("1" + "+1".repeat(149), 150 - 256);
        // A text with too many is followed by one that may have all of them again.
        Subject x = new Subject();
        String start = "var x; thread { x = 1" + "+x".repeat(149);
        Probe.due("too many", x.check(start + "+x; }"), start.length() + 1);
        Probe.due("just enough", x.check(start + "; }"), NONE);
        Probe.due("once more", x.check(start + "; }"), NONE);
    }

    private static void firstFault() {
        Probe.sentence("THE FAULT: the place of the first token that can not stand there");
        bad("var x ^x; @ thread { y = 1; }");
        bad("thread { ^x = 1; y = 2; }");
        bad("var x; thread { x = ^y + z; }");
        bad("^; ; ;");
        bad("thread { ^@ } @");
        bad("thread { stop ^stop } @");
        bad("thread { } ^x @");
        bad("thread { } ^@ x");
        bad("var x; thread { x = ^128; } x");
        // One place further on for each byte before it.
        for (int before = 0; before < 60; before++) {
            bad(" ".repeat(before) + "^x");
            bad("thread" + "\n".repeat(before) + "{ ^x }");
        }
        bad("thread { }" + " ".repeat(1589) + "^x");
    }

    private static void ownFaults() {
        Probe.sentence("(for one that is too much, too great, unknown or declared already: its own; of a variable, lock or local"
            + " too many its NAME, of a thread or statement its first token)");
        bad("thread { " + "if (1) { ".repeat(6) + "if (1) ^{ } " + "} ".repeat(7));
        badBody("x = " + "(".repeat(8) + " ^( 1" + ")".repeat(9) + ";");
        badBody("x = 1" + "+x".repeat(149) + " + ^1;");
        bad("var x = ^128; thread { }");
        badBody("x = y + ^128;");
        bad("thread { ^x = 1; }");
        badBody("x = y + ^z;");
        badBody("wake all ^z;");
        bad("var x; lock m; var ^x; thread { }");
        bad("var x; lock m; lock ^m; thread { }");
        bad("thread { local a; local ^a; }");
        bad(EIGHT + " var \n ^i = 1; thread { }");
        bad(FOUR + " lock \n ^o; thread { }");
        bad("thread { local a; local b; local c; local \n ^d; }");
        bad("thread { } thread { } thread { } thread { } \n ^thread { }");
        bad("thread { " + "stop; ".repeat(50) + "\n ^if (1) { } }");
    }

    private static void byteFaults() {
        Probe.sentence("of the first byte that begins no token (a name or number that is too long, too great: its first)");
        bad("^@");
        bad("var x; ^@");
        bad("var x^@@; thread { }");
        bad("var ^abcdefghi; thread { }");
        bad("var ^abcdefghijklmnopqrstuvwxyz0123456789; thread { }");
        bad("var x = ^128; thread { }");
        bad("var x = ^00000128; thread { }");
        bad("var x = ^1280000000000000000000000; thread { }");
        bad("thread { } ^128");
        bad("thread { } ^abcdefghi");
        badBody("x = x ^&y;");
        badBody("x = x ^|y;");
        bad("thread { } ^&");
        bad("thread { } ^|");
    }

    private static void endFaults() {
        Probe.sentence("or of the end if something is missing.");
        bad("^");
        bad(" ^");
        bad("  \n ^");
        bad("var^");
        bad("var  ^");
        bad("var x^");
        bad("var x =^");
        bad("var x = -^");
        bad("var x = 5^");
        bad("var x;^");
        bad("lock^");
        bad("lock m^");
        bad("lock m; ^");
        bad("thread^");
        bad("thread {^");
        bad("thread { local^");
        bad("thread { local a^");
        bad("thread { local a; ^");
        bad("thread { stop^");
        bad("thread { stop; ^");
        bad("var x; thread { x^");
        bad("var x; thread { x =^");
        bad("var x; thread { x = 1 ^");
        bad("var x; thread { x = (1 ^");
        bad("var x; thread { x = -^");
        bad("var x; thread { x = 1 + ^");
        bad("thread { if^");
        bad("thread { if (^");
        bad("thread { if (1^");
        bad("thread { if (1)^");
        bad("thread { if (1) {^");
        bad("thread { if (1) { }^");
        bad("thread { if (1) { } else^");
        bad("thread { if (1) { } else {^");
        bad("thread { while (1) { stop; ^");
        bad("thread { while (1) { stop; } ^");
        bad("lock m; thread { wake^");
        bad("lock m; thread { wake all^");
        bad("lock m; thread { wake all m^");
        bad("thread { }" + " ".repeat(100) + "thread" + " ".repeat(100) + "^");
        bad(" ".repeat(1600) + "^");
        bad("thread {" + " ".repeat(1592) + "^");
    }

    /** A text that is cut between two tokens has its fault at the end, until nothing is missing. */
    private static void everyCut() {
        String text = "var x = - 3 ; lock m ; thread { local a ; a = ( x + 1 ) * 2 ; take m ;"
            + " if ( a <= x && ! a ) { wake all m ; } else { while ( x ) { wait m ; } } give m ; stop ; }";
        for (int cut = 0; cut < text.length(); cut++) {
            if (text.charAt(cut) == ' ') {
                bad(text.substring(0, cut) + "^");
                bad(text.substring(0, cut + 1) + "^");
            }
        }
        good(text);
    }

    /** A text's fault is where it was first wrong: what stands before has none, and what follows counts for nothing. */
    private static void shuffledTokens() {
        String[] good = ("var x = - 3 ; lock m ; thread { local a ; a = ( x + 1 ) * 2 ; take m ;"
            + " if ( a <= x && ! a ) { wake all m ; } else { while ( x ) { wait m ; } } give m ; assert x ; stop ; }").split(" ");
        Random random = new Random(1);
        for (int round = 0; round < 5000; round++) {
            List<String> tokens = new ArrayList<>(List.of(good));
            for (int change = 0; change <= round % 3; change++) {
                int at = random.nextInt(tokens.size());
                String other = good[random.nextInt(good.length)];
                switch (random.nextInt(3)) {
                    case 0 -> tokens.set(at, other);
                    case 1 -> tokens.add(at, other);
                    default -> tokens.remove(at);
                }
            }
            shuffled(String.join(" ", tokens));
        }
    }

    private static void shuffled(String text) {
        int fault = new Subject().check(text);
        if (fault < 0) {
            Probe.due("no fault of " + text, fault, NONE);
            return;
        }
        int before = new Subject().check(text.substring(0, fault));
        Probe.due("before the fault of " + text, before == NONE ? fault : before, fault);
        if (fault < text.length()) {
            int end = text.indexOf(' ', fault) < 0 ? text.length() : text.indexOf(' ', fault);
            Probe.due("with another end " + text, new Subject().check(text.substring(0, end) + " ; } @"), fault);
        }
    }
}
