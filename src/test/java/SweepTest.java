import java.util.ArrayList;
import java.util.Collections;
import java.util.List;
import java.util.Random;

/** Every call with every mix of numbers at and beside its bounds, far off ones too: answered as by the Model, and none throws. */
public final class SweepTest {
    private static final Check C = new Check();
    private static final String ONE = "MIN -2147483647 -16 -3 -2 -1 0 1 2 3 4 5 6 7 8 9 10 11 12 13 20 21 22 29 30 31 32 35 59 60 61 "
        + "99 100 101 127 128 129 255 256 998 999 1000 1001 2147483646 MAX";
    private static final String TWO = "MIN -3 -2 -1 0 1 2 3 4 5 6 7 8 9 10 11 12 13 19 20 21 22 29 30 31 59 60 61 MAX";
    private static final String THREE = "MIN -2 -1 0 1 2 3 4 5 6 7 9 10 11 12 13 30 31 59 60 61 MAX";
    private static final String FIVE = "-1 0 1 2 3 5 6 MAX";
    private static final String V = "0 1 -1 127 128 -128 -129 255 256 32767 32768 65536 2147483647 2147483648 4294967296 9223372036854775807 NO";
    private static final String[] CALLS = {"creak B B", "toy A ?", "door A", "walker B B B", "of B B", "put B B", "row C C C",
        "feed A", "night", "told A", "step B B", "still A", "lull", "way A", "goes B B", "out A", "quiet B B", "set B B", "mend A",
        "away A", "from A", "deeper A", "see C C ?", "who", "odds B B", "mean B B", "book A", "looked", "judge B B", "image", "undo",
        "act C C B", "trace A", "taken B B", "count A", "tape C C C", "item C C V", "read B B", "shift E E E E E"};

    public static void main(String[] args) {
        List<String> all = new ArrayList<>();
        for (String call : CALLS) {
            mixes(call.split(" "), 1, all);
        }
        // Mixed, so that no object sees but one sort of call.
        Collections.shuffle(all, new Random(7));
        String[] states = {"", States.RICH, States.FULL, States.AWAKE, States.LATE};
        int next = 0;
        for (int object = 0; next < all.size() && C.allRight(); object++) {
            String state = states[object % states.length];
            Calls x = new Calls();
            Calls m = new Calls(new Model());
            C.due("the state", x.answersOf(state).equals(m.answersOf(state)) ? 1 : 0, 1);
            while (x.made() < Calls.MOST && next < all.size()) {
                String line = all.get(next++);
                C.due(line + " in state " + object % states.length, x.answers(line).get(0), m.answers(line).get(0));
            }
        }
        C.due("all mixes were tried", next, all.size());
        C.end("SweepTest");
    }

    private static void mixes(String[] words, int from, List<String> all) {
        if (from == words.length) {
            all.add(String.join(" ", words));
            return;
        }
        String[] one = words.clone();
        for (String each : numbers(words[from]).split(" ")) {
            one[from] = each;
            mixes(one, from + 1, all);
        }
    }

    private static String numbers(String word) {
        switch (word) {
            case "A":
                return ONE;
            case "B":
                return TWO;
            case "C":
                return THREE;
            case "E":
                return FIVE;
            case "V":
                return V;
            default:
                return "true false";
        }
    }
}
