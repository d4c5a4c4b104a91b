import java.nio.charset.StandardCharsets;

/**
 * An object under test. It counts its calls: what an object answers behind its 512th call is free,
 * so a test that asks for more is wrong itself.
 */
final class Subject {
    static final int MOST_CALLS = 512;
    private static final int FEED_BYTES = 20;
    private final ScheduleCheck object = new ScheduleCheck();
    private int calls = 0;

    /** A new object with a program that must have no fault. */
    static Subject made(String text) {
        Subject x = new Subject();
        Probe.due("check of " + text, x.check(text), Probe.NONE);
        return x;
    }

    int calls() {
        return calls;
    }

    /** Whether so many calls more can be made. */
    boolean hasRoomFor(int more) {
        return calls + more <= MOST_CALLS;
    }

    /** How many calls check(text) makes. */
    static int callsToCheck(String text) {
        return (text.length() + FEED_BYTES - 1) / FEED_BYTES + 2;
    }

    private ScheduleCheck called() {
        calls++;
        if (calls > MOST_CALLS) {
            throw new IllegalStateException("a test makes more than 512 calls on one object");
        }
        return object;
    }

    /** Puts a text behind what the tape has, which is so many bytes; what fills the last call is cut. */
    void write(int has, String text) {
        byte[] bytes = text.getBytes(StandardCharsets.ISO_8859_1);
        for (int at = 0; at < bytes.length; at += FEED_BYTES) {
            int[] words = new int[5];
            for (int i = 0; i < FEED_BYTES; i++) {
                int one = at + i < bytes.length ? bytes[at + i] & 255 : '#';
                words[i / 4] = words[i / 4] << 8 | one;
            }
            feed(words[0], words[1], words[2], words[3], words[4]);
        }
        end(has + bytes.length);
    }

    /** Checks a text; the tape must be empty before. */
    int check(String text) {
        write(0, text);
        return check();
    }

    int feed(int a, int b, int c, int d, int e) {
        return called().feed(a, b, c, d, e);
    }

    /** Twenty times the same byte. */
    int feed(char one) {
        int word = one * 0x01010101;
        return feed(word, word, word, word, word);
    }

    int end(int n) {
        return called().end(n);
    }

    int check() {
        return called().check();
    }

    int count(int what) {
        return called().count(what);
    }

    int first(int what) {
        return called().first(what);
    }

    int look(int state, int what) {
        return called().look(state, what);
    }

    int value(int state, int variable) {
        return called().value(state, variable);
    }

    int local(int state, int thread, int k) {
        return called().local(state, thread, k);
    }

    int place(int state, int thread) {
        return called().place(state, thread);
    }

    int owner(int state, int lock) {
        return called().owner(state, lock);
    }

    int waits(int state, int thread) {
        return called().waits(state, thread);
    }

    int next(int state, int k) {
        return called().next(state, k);
    }

    int outcome(int variable, int what) {
        return called().outcome(variable, what);
    }

    int race(int variable) {
        return called().race(variable);
    }
}
