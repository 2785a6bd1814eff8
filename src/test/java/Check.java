/** Counts and prints answers that are not the ones due; ends a test. */
final class Check {
    private int wrong;
    private int looked;

    void due(String what, long got, long want) {
        looked++;
        if (got != want) {
            wrong++;
            if (wrong <= 40) {
                System.out.println(what + " answered " + got + ", due is " + want);
            }
        }
    }

    /** Runs a block of lines, as told in Calls, on a new object: what a sentence of the document asks. */
    void edge(String sentence, String block) {
        Calls.run(this, sentence, block);
    }

    boolean allRight() {
        return wrong == 0;
    }

    /** Says how it went, and ends with exit code 1 if an answer was wrong. */
    void end(String test) {
        System.out.println(test + ": " + looked + " answers looked at, " + wrong + " wrong");
        if (wrong != 0 || looked == 0) {
            System.exit(1);
        }
    }

    /** Feeds a text, sign by sign; how many bytes THE TEXT has then, or the first refusal. */
    static int feed(OnTiptoe x, String text) {
        int n = x.count(5);
        for (int i = 0; i < text.length(); i++) {
            n = x.feed(text.charAt(i));
            if (n < 0) {
                return n;
            }
        }
        return n;
    }

    /** Feeds a text and makes it a NIGHT. */
    static int night(OnTiptoe x, String text) {
        feed(x, text);
        return x.night();
    }
}
