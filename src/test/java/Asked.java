import java.util.ArrayDeque;
import java.util.Deque;

/** NIGHTS once more: where a text's FAULT is, byte by byte with a stack of what is open; what an E answers, by cutting it up. */
final class Asked {
    private Asked() {
    }

    /** The FAULT; -1: the text is a NIGHT. */
    static int fault(String text) {
        String word = "";
        int clauses = 1;
        // What can come next: the word, a number's first or second digit, a relation, what starts or follows an F.
        String state = "word";
        Deque<Character> open = new ArrayDeque<>();
        for (int i = 0; i < text.length(); i++) {
            char c = text.charAt(i);
            boolean digit = c >= '0' && c <= '9';
            switch (state) {
                case "word":
                    word += c;
                    if (!"deep ".startsWith(word) && !"creak ".startsWith(word) && !"hush ".startsWith(word)) return i;
                    state = c == ' ' ? "n1" : "word";
                    break;
                case "n1":
                    if (!digit) return i;
                    state = "n2";
                    break;
                case "n2":
                    if (!digit && c != ' ') return i;
                    state = digit ? "blank" : "F";
                    break;
                case "blank":
                    if (c != ' ') return i;
                    state = "F";
                    break;
                case "F":
                    if (c == '(' || c == '!') {
                        if (open.size() == 4) return i;
                        open.push(c);
                    } else if ("mxyckt".indexOf(c) >= 0) {
                        state = "relation";
                    } else {
                        return i;
                    }
                    break;
                case "relation":
                    if ("<=>".indexOf(c) < 0) return i;
                    state = "t1";
                    break;
                case "t1":
                    if (!digit) return i;
                    state = "t2";
                    break;
                default:
                    if (digit && state.equals("t2")) {
                        state = "behind";
                        break;
                    }
                    state = "behind";
                    // An F is over here, and so is each ! that waited for it.
                    closeNots(open);
                    if (c == ')') {
                        if (open.isEmpty()) return i;
                        open.pop();
                        closeNots(open);
                    } else if (c == '&' || c == '|') {
                        state = "F";
                    } else if (c == ';' && open.isEmpty() && clauses < 10) {
                        clauses++;
                        word = "";
                        state = "word";
                    } else {
                        return i;
                    }
            }
        }
        closeNotsAtEnd(state, open);
        boolean over = (state.equals("t2") || state.equals("behind")) && open.isEmpty();
        return over ? -1 : text.length();
    }

    private static void closeNots(Deque<Character> open) {
        while (!open.isEmpty() && open.peek() == '!') {
            open.pop();
        }
    }

    private static void closeNotsAtEnd(String state, Deque<Character> open) {
        if (state.equals("t2") || state.equals("behind")) {
            closeNots(open);
        }
    }

    /** Whether an E holds. */
    static boolean holds(String e, int... facts) {
        int cut = cut(e, '|');
        if (cut >= 0) {
            return holds(e.substring(0, cut), facts) | holds(e.substring(cut + 1), facts);
        }
        cut = cut(e, '&');
        if (cut >= 0) {
            return holds(e.substring(0, cut), facts) & holds(e.substring(cut + 1), facts);
        }
        if (e.startsWith("!")) {
            return !holds(e.substring(1), facts);
        }
        if (e.startsWith("(")) {
            return holds(e.substring(1, e.length() - 1), facts);
        }
        int fact = facts["mxyckt".indexOf(e.charAt(0))];
        int number = Integer.parseInt(e.substring(2));
        return e.charAt(1) == '<' ? fact < number : e.charAt(1) == '=' ? fact == number : fact > number;
    }

    private static int cut(String e, char sign) {
        int open = 0;
        for (int i = 0; i < e.length(); i++) {
            char c = e.charAt(i);
            open += c == '(' ? 1 : c == ')' ? -1 : 0;
            if (c == sign && open == 0) {
                return i;
            }
        }
        return -1;
    }
}
