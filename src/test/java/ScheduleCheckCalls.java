import java.util.ArrayList;
import java.util.List;
import java.util.Random;

/**
 * Runs of 512 calls of all kinds in any order: a model has the tape, and a new object that was given
 * nothing but the last program answers what the used one must.
 */
public final class ScheduleCheckCalls {
    private static final int REFUSED = -1, NONE = -2, FULL = -3;
    private static final int RUNS = 400;
    private static final String[] PIECES = {
        "thread { }", "thread { stop; } ", "var x; thread { x = 1; } thread { x = 2; }",
        "lock m; thread { take m; wait m; } thread { take m; wake m; give m; }",
        "var x = 5; var y = -3; lock m; thread { local a; a = x; take m; y = a + y; } thread { assert y < 0; }",
        "var x; thread { while (x < 20) { x = x + 1; } } thread { x = 9; x = 3; }",
        "lock m; lock n; thread { take m; take n; } thread { take n; take m; } thread { give m; }",
        "var x; thread { while (1) { x = x + 1; } } thread { while (1) { x = x - 1; } }",
        "thread { } x", "var x = 128; thread { }", "thread {", "var x; thread { x = y; }", "", " ", "@"};
    private static final int[] ODD = {Integer.MIN_VALUE, -1, 0, 1, 2, 3, 4, 5, 8, 9, 20, 32, 799, 800, Integer.MAX_VALUE};

    private final Random random;
    private final Subject x = new Subject();
    private final List<Byte> tape = new ArrayList<>();
    /** The text of the program that stands, or null. */
    private String standing;
    private Subject other = new Subject();

    private ScheduleCheckCalls(long seed) {
        random = new Random(seed);
    }

    public static void main(String[] args) {
        for (int run = 0; run < RUNS; run++) {
            new ScheduleCheckCalls(run).run();
        }
        Probe.finish("ScheduleCheckCalls");
    }

    private void run() {
        while (x.hasRoomFor(1)) {
            switch (random.nextInt(12)) {
                case 0 -> feedBytes(random.nextInt(), random.nextInt(), random.nextInt(), random.nextInt(), random.nextInt());
                case 1, 2, 3 -> end(random.nextInt(4) == 0 ? ODD[random.nextInt(ODD.length)] : tape.size() - random.nextInt(3));
                case 4 -> check();
                case 5 -> checkPiece();
                case 6 -> {
                    for (int i = random.nextInt(90); i > 0 && x.hasRoomFor(1); i--) {
                        feedBytes(0x20202020, 0x20202020, 0x20202020, 0x20202020, 0x20202020);
                    }
                }
                default -> ask();
            }
        }
        Probe.due("calls of a run", x.calls(), Subject.MOST_CALLS);
    }

    private void feedBytes(int... words) {
        boolean fits = tape.size() + 20 <= 1600;
        if (fits) {
            for (int i = 0; i < 20; i++) {
                tape.add((byte) (words[i / 4] >>> 24 - i % 4 * 8));
            }
        }
        Probe.due("feed", x.feed(words[0], words[1], words[2], words[3], words[4]), fits ? tape.size() : FULL);
    }

    private void end(int n) {
        boolean fits = n >= 0 && n <= tape.size();
        Probe.due("end " + n + " of " + tape.size(), x.end(n), fits ? n : REFUSED);
        if (fits) {
            tape.subList(n, tape.size()).clear();
        }
    }

    /** Writes a text on the tape, mostly when that is empty, and checks it. */
    private void checkPiece() {
        String text = PIECES[random.nextInt(PIECES.length)];
        if (!x.hasRoomFor(Subject.callsToCheck(text) + 1)) {
            return;
        }
        if (random.nextInt(4) != 0) {
            end(0);
        }
        int before = tape.size();
        for (int at = 0; at < text.length(); at += 20) {
            int[] words = new int[5];
            for (int i = 0; i < 20; i++) {
                words[i / 4] = words[i / 4] << 8 | (at + i < text.length() ? text.charAt(at + i) : '}');
            }
            feedBytes(words);
        }
        end(before + text.length());
        check();
    }

    private String text() {
        StringBuilder text = new StringBuilder();
        for (byte one : tape) {
            text.append((char) (one & 255));
        }
        return text.toString();
    }

    private void check() {
        String text = text();
        tape.clear();
        Subject fresh = new Subject();
        int want = fresh.check(text);
        Probe.due("check of " + text, x.check(), want);
        if (want == NONE) {
            standing = text;
            other = fresh;
        } else if (want == FULL) {
            standing = null;
            other = new Subject();
        }
    }

    /** An object that has been given the program alone. */
    private Subject other() {
        if (!other.hasRoomFor(1)) {
            other = new Subject();
            if (standing != null) {
                other.check(standing);
            }
        }
        return other;
    }

    private int number() {
        return random.nextInt(5) == 0 ? ODD[random.nextInt(ODD.length)] : random.nextInt(4);
    }

    private int state() {
        return random.nextInt(3) == 0 ? random.nextInt(70) : number();
    }

    private void ask() {
        int call = random.nextInt(11);
        int a = call < 2 || call > 8 ? number() + random.nextInt(2) * 4 : state();
        int b = number();
        int c = number();
        Probe.due("call " + call + " of " + a + ", " + b + ", " + c + " with " + standing,
            answer(x, call, a, b, c), answer(other(), call, a, b, c));
    }

    private static int answer(Subject x, int call, int a, int b, int c) {
        return switch (call) {
            case 0 -> x.count(a);
            case 1 -> x.first(a);
            case 2 -> x.look(a, b);
            case 3 -> x.value(a, b);
            case 4 -> x.local(a, b, c);
            case 5 -> x.place(a, b);
            case 6 -> x.owner(a, b);
            case 7 -> x.waits(a, b);
            case 8 -> x.next(a, b);
            case 9 -> x.outcome(a, b);
            default -> x.race(a);
        };
    }
}
