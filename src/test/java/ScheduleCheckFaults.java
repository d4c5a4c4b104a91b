import java.util.ArrayList;
import java.util.List;
import java.util.Random;

/** Where the fault of a text is: '^' stands before the place that is due, and is no part of the text. */
public final class ScheduleCheckFaults {
    public static void main(String[] args) {
        declarations();
        threads();
        tokens();
        signs();
        statements();
        expressions();
        names();
        limits();
        blockLimits();
        atomLimits();
        foreignBytes();
        everyCut();
        shuffledTokens();
        Probe.finish("ScheduleCheckFaults");
    }

    private static void bad(String marked) {
        int place = marked.indexOf('^');
        String text = marked.substring(0, place) + marked.substring(place + 1);
        Probe.due("check of " + marked, Probe.check(new ScheduleCheck(), text), place);
    }

    private static void good(String text) {
        Probe.due("check of " + text, Probe.check(new ScheduleCheck(), text), Probe.NONE);
    }

    private static void goodBody(String body) {
        good("var x; var y; lock m; thread { local a; " + body + " }");
    }

    private static void badBody(String marked) {
        bad("var x; var y; lock m; thread { local a; " + marked + " }");
    }

    private static void declarations() {
        bad("^");
        bad("  \n ^");
        bad("^x");
        bad("^;");
        bad("var^");
        bad("var  ^");
        bad("var ^;");
        bad("var ^5; thread { }");
        bad("var ^if; thread { }");
        bad("var x ^thread { }");
        bad("var x =^");
        bad("var x = -^");
        bad("var x = 5^");
        bad("var x = ^; thread { }");
        bad("var x = ^y; thread { }");
        bad("var x = -^-5; thread { }");
        bad("var x = ^!5; thread { }");
        bad("var x = ^(5); thread { }");
        bad("var x = 5 ^+ 1; thread { }");
        bad("var x ^== 5; thread { }");
        bad("var x^, y; thread { }");
        bad("lock m ^= 1; thread { }");
        bad("lock^");
        bad("lock ^lock; thread { }");
        bad("lock m^");
        bad("var x; ^local y; thread { }");
        bad("var x; lock m; ^");
        bad("thread { } ^var x;");
        bad("thread { } ^lock x;");
        good("var x = 127; var y = -127; var z = - 0; lock m; var w=\n-\n1;thread{}");
    }

    private static void threads() {
        bad("thread^");
        bad("thread ^x { }");
        bad("thread ^( )");
        bad("thread {^");
        bad("thread { } ^}");
        bad("thread { } ^x");
        bad("thread { } ^{ }");
        bad("thread { ^{ } }");
        bad("thread { ^thread { } }");
        bad("thread { local^");
        bad("thread { local ^; }");
        bad("thread { local a^");
        bad("thread { local a ^= 1; }");
        bad("thread { local ^local; }");
        bad("thread { local a; local ^a; }");
        bad("thread { stop; ^local a; }");
        bad("thread { if (1) { ^local a; } }");
        good("thread { } \n ");
        good("var x; lock m; thread { local x; local m; local a; x = 1; m = 2; a = 3; } thread { local a; take m; }");
    }

    private static void tokens() {
        good("var abcdefgh; thread { }");
        bad("var ^abcdefghi; thread { }");
        bad("^abcdefghijklmnop");
        good("var a1234567; thread { }");
        bad("var ^a12345678; thread { }");
        bad("var ^1a; thread { }");
        bad("var x = 12^ab; thread { }");
        bad("var x = 12 ^12; thread { }");
        bad("var ^X; thread { }");
        bad("var x^X; thread { }");
        bad("var x^_y; thread { }");
        good("var vars; var iff; var all1; var whilee; thread { vars = iff; }");
        bad("^varx; thread { }");
        bad("^thread1 { }");
        bad("var ^all; thread { }");
        for (String word : "var lock thread local take give wait wake all assert if else while stop".split(" ")) {
            bad("var ^" + word + "; thread { }");
            bad("lock ^" + word + "; thread { }");
            bad("thread { local ^" + word + "; }");
        }
        good("var x = 127; thread { }");
        good("var x = 0000000000000000000000000000127; thread { }");
        good("var x = 000; thread { }");
        bad("var x = ^128; thread { }");
        bad("var x = -^128; thread { }");
        bad("var x = ^0128; thread { }");
        bad("var x = ^1270; thread { }");
        bad("var x = ^4294967296; thread { }");
        bad("var x = ^4294967297; thread { }");
        bad("var x = ^99999999999999999999999999999; thread { }");
        badBody("x = ^128;");
        badBody("x = -^128;");
        bad("var^\tx; thread { }");
        bad("var x^\r; thread { }");
        bad("var x; ^/ thread { }");
    }

    private static void signs() {
        goodBody("x=x<=y;x=x>=y;x=x!=y;x=x==y;x=x<y;x=x>y;x=x&&y;x=x||y;x=x+y-y*x;x=!x;x=-x;");
        badBody("x = x ^& y;");
        badBody("x = x ^| y;");
        badBody("x = x &&^& y;");
        badBody("x = x ||^| y;");
        badBody("x = x ^&");
        badBody("x = x == ^= y;");
        badBody("x = x ==^= y;");
        badBody("x = x <^< y;");
        badBody("x = x < ^= y;");
        badBody("x = x ^= y;");
        badBody("x = x ^=< y;");
        badBody("x = x ^! = y;");
        badBody("x ^== 1;");
        bad("var x; thread { x =^");
        badBody("x = x ^/ y;");
        badBody("x = x ^% y;");
        badBody("x = ^+x;");
        badBody("x = ^*x;");
        goodBody("x=!!x;x=--x;x=- -x;x=x--x;x=x!=!x;x=!-x;");
        badBody("x = ^&");
        bad("thread { } ^&");
        bad("thread { } ^=");
    }

    private static void statements() {
        badBody("^5;");
        badBody("^;");
        badBody("^else { }");
        badBody("^all m;");
        badBody("x ^;");
        badBody("x ^x;");
        badBody("x = ^;");
        bad("var x; thread { x = 1 ^");
        bad("var x; thread { x = 1 ^}");
        badBody("x = 1 ^x = 2;");
        badBody("take ^;");
        badBody("take ^5;");
        badBody("take ^all m;");
        badBody("take m ^m;");
        badBody("give ^all m;");
        badBody("wait ^all m;");
        badBody("wake ^;");
        badBody("wake all ^;");
        badBody("wake all ^all m;");
        badBody("wake ^(m);");
        badBody("assert ^;");
        badBody("assert x ^= 1;");
        badBody("stop ^x;");
        bad("thread { stop ^");
        bad("thread { stop ^}");
        badBody("if ^x { }");
        badBody("if (^) { }");
        badBody("if (x ^{ }");
        badBody("if (x) ^x = 1;");
        badBody("if (x) { } else ^x = 1;");
        badBody("if (x) { } else ^if (y) { }");
        badBody("if (x) { } else { } ^else { }");
        badBody("while (x) { } ^else { }");
        badBody("while ^{ }");
        badBody("while (x ^; ) { }");
        badBody("while (x) { } ^;");
        badBody("if (x) { }^;");
        bad("var x; thread { while (x) { x = 1; } ^");
        bad("var x; thread { while (x) { x = 1; ^");
        goodBody("x = 1; a = 2; take m; give m; wait m; wake m; wake all m; assert x; stop;"
            + " if (x) { } if (x) { y = 1; } else { } while (x) { stop; }");
    }

    private static void expressions() {
        badBody("x = x < y ^< a;");
        badBody("x = x == y ^== a;");
        badBody("x = x < y ^!= a;");
        goodBody("x = (x < y) < a;");
        goodBody("x = x < y && y < a || a == x && !x;");
        badBody("x = (^);");
        badBody("x = (x^;");
        badBody("x = (x ^x);");
        badBody("x = x^);");
        badBody("x = x + ^;");
        badBody("x = x && ^|| y;");
        badBody("x = x ^(y);");
        badBody("x = x ^!y;");
        badBody("x = 1 ^2;");
        badBody("x = -^;");
        badBody("x = !^+x;");
        badBody("x = ^take;");
        badBody("x = x * ^* y;");
    }

    private static void names() {
        badBody("^z = 1;");
        badBody("^m = 1;");
        badBody("x = ^z;");
        badBody("x = ^m;");
        badBody("x = y + (y * -^m);");
        badBody("take ^x;");
        badBody("take ^a;");
        badBody("take ^z;");
        badBody("give ^x;");
        badBody("wait ^x;");
        badBody("wake ^x;");
        badBody("wake all ^x;");
        bad("var x; var ^x; thread { }");
        bad("var x; lock ^x; thread { }");
        bad("lock m; lock ^m; thread { }");
        bad("lock m; var ^m; thread { }");
        bad("lock m; thread { local m; take ^m; }");
        good("lock m; thread { local m; m = m; } thread { take m; }");
        bad("lock m; thread { local m; } thread { ^m = 1; }");
        bad("thread { local a; local b; } thread { local c; ^a = c; }");
        bad("thread { local a; local b; } thread { local c; c = ^b; }");
        bad("thread { local a; a = ^b; } thread { local b; }");
    }

    private static void limits() {
        String eight = "var a; var b; var c; var d; var e; var f; var g; var h; ";
        good(eight + "thread { }");
        bad(eight + "var ^i; thread { }");
        bad(eight + "var ^a; thread { }");
        bad(eight + "var ^= 1; thread { }");
        bad(eight + "var ^");
        String four = "lock k; lock l; lock m; lock n; ";
        good(eight + four + "thread { }");
        good(four + eight + "thread { }");
        bad(four + "lock ^o; thread { }");
        bad(eight + four + "lock ^o; thread { }");
        bad(four + eight + "var ^o; thread { }");
        good("thread { local a; local b; local c; }");
        bad("thread { local a; local b; local c; local ^d; }");
        bad("thread { local a; local b; local c; local ^c; }");
        String threads = "thread { } thread { } thread { } thread { } ";
        good(threads);
        bad(threads + "^thread { }");
        bad(threads + "^thread");
        String stops = "stop; ".repeat(50);
        good("thread { " + stops + "}");
        bad("thread { " + stops + "^stop; }");
        bad("var x; thread { " + stops + "^x = 1; }");
        bad("var x; thread { " + stops + "^if (1) { } }");
        bad("var x; thread { " + stops + "^z = 1; }");
        bad("thread { " + "stop; ".repeat(30) + "} thread { " + "stop; ".repeat(20) + "^stop; }");
        good("thread { " + "stop; ".repeat(30) + "} thread { " + "stop; ".repeat(20) + "}");
        good("thread { " + "stop; ".repeat(48) + "if (1) { stop; } }");
        bad("thread { " + "stop; ".repeat(49) + "if (1) { ^stop; } }");
        bad("thread { " + "stop; ".repeat(48) + "if (1) { stop; } else { ^stop; } }");
    }

    private static void blockLimits() {
        String open = "if (1) { ";
        good("thread { " + open.repeat(6) + "stop; " + "} ".repeat(7));
        bad("thread { " + open.repeat(6) + "if (1) ^{ " + "} ".repeat(8));
        bad("thread { " + open.repeat(6) + "while (1) ^{ " + "} ".repeat(8));
        bad("thread { " + open.repeat(6) + "if (1) ^stop; " + "} ".repeat(7));
        bad("thread { " + open.repeat(6) + "if (1^");
        good("thread { " + "if (1) { } else { ".repeat(6) + "} ".repeat(7));
        bad("thread { " + "if (1) { } else { ".repeat(6) + "if (1) ^{ }" + "} ".repeat(7));
        good("thread { " + open.repeat(6) + "} ".repeat(6) + open.repeat(6) + "} ".repeat(7));
    }

    private static void atomLimits() {
        goodBody("x = " + "(".repeat(8) + "1" + ")".repeat(8) + ";");
        badBody("x = " + "(".repeat(8) + "^(1" + ")".repeat(9) + ";");
        goodBody("x = " + "-".repeat(8) + "1;");
        badBody("x = " + "-".repeat(8) + "^-1;");
        badBody("x = " + "!".repeat(8) + "^!1;");
        goodBody("x = " + "-(!(".repeat(2) + "1" + "))".repeat(2) + ";");
        badBody("x = " + "-(!(".repeat(2) + "^-1" + "))".repeat(2) + ";");
        badBody("x = " + "-(!(".repeat(2) + "1 + ^(1)" + "))".repeat(2) + ";");
        goodBody("x = (1) + (1) + (1) + (1) + (1) + (1) + (1) + (1) + (1) + (1) + -1;");
        goodBody("if (" + "(".repeat(8) + "1" + ")".repeat(8) + ") { }");
        goodBody("x = 1" + "+x".repeat(149) + ";");
        badBody("x = 1" + "+x".repeat(149) + "+^x;");
        badBody("x = 1" + "+x".repeat(149) + "+^1;");
        badBody("x = 1" + "*(x".repeat(1) + "+x".repeat(148) + "+^z);");
        badBody("x = 1" + "+x".repeat(149) + "; y = -^1;");
        goodBody("x = 1" + "+x".repeat(148) + "; y = -1;");
        badBody("x = 1" + "+x".repeat(148) + "; assert 1; stop; if (^1) { }");
        good("var q = 5; var x; thread { x = 1" + "+q".repeat(75) + "; } thread { x = 1" + "+q".repeat(73) + "; }");
        bad("var q = 5; var x; thread { x = 1" + "+q".repeat(75) + "; } thread { x = 1" + "+q".repeat(73) + "<^0; }");
        goodBody("x = " + "--------1+".repeat(99) + "1;");
    }

    /** Every byte that is no part of a token is a fault wherever it stands, the byte 0 among them. */
    private static void foreignBytes() {
        String known = "{}();=+-*!<>&| \nabcdefghijklmnopqrstuvwxyz0123456789";
        for (char one = 0; one < 256; one++) {
            if (known.indexOf(one) < 0 && one != '^') {
                bad("var x; thread { x = 1 ^" + one + "+ 1; }");
                bad("var x; thread { x ^" + one + "= 1; }");
                bad("var x; thread { } ^" + one);
                bad("^" + one);
            }
        }
        Probe.due("fault at '^'", Probe.check(new ScheduleCheck(), "thread { ^"), 9);
    }

    /** A text that is cut between two tokens has its fault at the end, until nothing is missing. */
    private static void everyCut() {
        String text = "var x = - 3 ; lock m ; thread { local a ; a = ( x + 1 ) * 2 ; take m ;"
            + " if ( a <= x && ! a ) { wake all m ; } else { while ( x ) { wait m ; } } give m ; stop ; }";
        ScheduleCheck x = new ScheduleCheck();
        for (int cut = 0; cut < text.length(); cut++) {
            if (text.charAt(cut) == ' ') {
                Probe.due("cut at " + cut, Probe.check(x, text.substring(0, cut)), cut);
                Probe.due("cut behind " + cut, Probe.check(x, text.substring(0, cut + 1)), cut + 1);
                Probe.due("states", x.count(0), 0);
            }
        }
        Probe.due("the whole", Probe.check(x, text), Probe.NONE);
    }

    /** A text's fault is where it was first wrong: what stands before has none, and what follows counts for nothing. */
    private static void shuffledTokens() {
        String[] good = ("var x = - 3 ; lock m ; thread { local a ; a = ( x + 1 ) * 2 ; take m ;"
            + " if ( a <= x && ! a ) { wake all m ; } else { while ( x ) { wait m ; } } give m ; assert x ; stop ; }").split(" ");
        Random random = new Random(1);
        ScheduleCheck x = new ScheduleCheck();
        for (int round = 0; round < 5000; round++) {
            List<String> tokens = new ArrayList<>(List.of(good));
            for (int change = 0; change <= round % 3; change++) {
                int at = random.nextInt(tokens.size());
                String other = good[random.nextInt(good.length)];
                switch (random.nextInt(3)) {
                    case 0 -> tokens.set(at, other);
                    case 1 -> tokens.add(at, other);
                    default -> tokens.remove(at);
                }
            }
            String text = String.join(" ", tokens);
            int fault = Probe.check(x, text);
            if (fault >= 0) {
                int before = Probe.check(x, text.substring(0, fault));
                Probe.due("before the fault of " + text, before == Probe.NONE ? fault : before, fault);
            } else {
                Probe.due("no fault of " + text, fault, Probe.NONE);
            }
            if (fault >= 0 && fault < text.length()) {
                int end = text.indexOf(' ', fault) < 0 ? text.length() : text.indexOf(' ', fault);
                Probe.due("with another end " + text, Probe.check(x, text.substring(0, end) + " ; } @"), fault);
            }
        }
    }
}
