import java.nio.charset.StandardCharsets;

/** What the tests share: texts are fed, answers are held against those that are due. */
final class Probe {
    static final int REFUSED = -1, NONE = -2, FULL = -3;
    private static final int MOST_TOLD = 50;
    private static int right = 0;
    private static int wrong = 0;

    private Probe() {
    }

    static void due(String what, long got, long want) {
        if (got == want) {
            right++;
            return;
        }
        wrong++;
        if (wrong <= MOST_TOLD) {
            System.out.println(what + " answered " + got + ", due is " + want);
        }
    }

    static void finish(String test) {
        System.out.println(test + ": " + right + " answers as due, " + wrong + " not");
        if (wrong != 0 || right == 0) {
            System.exit(1);
        }
    }

    /** Puts a text on an empty tape. */
    static void write(ScheduleCheck x, String text) {
        byte[] bytes = text.getBytes(StandardCharsets.ISO_8859_1);
        for (int at = 0; at < bytes.length; at += 20) {
            int[] words = new int[5];
            for (int i = 0; i < 20; i++) {
                int one = at + i < bytes.length ? bytes[at + i] & 255 : '#';
                words[i / 4] = words[i / 4] << 8 | one;
            }
            x.feed(words[0], words[1], words[2], words[3], words[4]);
        }
        x.end(bytes.length);
    }

    static int check(ScheduleCheck x, String text) {
        write(x, text);
        return x.check();
    }

    /** A new object with a program that must have no fault. */
    static ScheduleCheck made(String text) {
        ScheduleCheck x = new ScheduleCheck();
        due("check of " + text, check(x, text), NONE);
        return x;
    }
}
