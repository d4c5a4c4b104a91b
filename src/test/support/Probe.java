/** Answers are held against those that are due, each under the sentence of the document that asks for it. */
final class Probe {
    static final int REFUSED = -1, NONE = -2, FULL = -3;
    private static final int MOST_TOLD = 50;
    private static String sentence = "";
    private static int underSentence = 1;
    private static int sentences = 0;
    private static int right = 0;
    private static int wrong = 0;

    private Probe() {
    }

    /** The sentence of the document, in its own words, that the next answers stand for. */
    static void sentence(String said) {
        closeSentence();
        sentence = said;
        sentences++;
        underSentence = 0;
    }

    private static void closeSentence() {
        if (underSentence == 0) {
            wrong++;
            System.out.println("nothing was asked for: " + sentence);
        }
    }

    static void due(String what, long got, long want) {
        underSentence++;
        if (got == want) {
            right++;
            return;
        }
        wrong++;
        if (wrong <= MOST_TOLD) {
            System.out.println(what + " answered " + got + ", due is " + want + tag());
        }
    }

    static void holds(String what, boolean holds) {
        due(what, holds ? 1 : 0, 1);
    }

    private static String tag() {
        return sentence.isEmpty() ? "" : " -- " + sentence;
    }

    static void finish(String test) {
        closeSentence();
        System.out.println(test + ": " + sentences + " sentences, " + right + " answers as due, " + wrong + " not");
        if (wrong != 0 || right == 0) {
            System.exit(1);
        }
    }
}
