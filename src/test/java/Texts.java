import java.util.Random;

/** Draws texts: NIGHTS, and such that nearly are. */
final class Texts {
    private Texts() {
    }

    static String night(Random random) {
        StringBuilder text = new StringBuilder();
        int clauses = 1 + random.nextInt(random.nextInt(6) + 1);
        for (int i = 0; i < clauses; i++) {
            StringBuilder clause = new StringBuilder(i == 0 ? "" : ";");
            int word = random.nextInt(4);
            clause.append(word < 2 ? "deep " : word == 2 ? "creak " : "hush ");
            clause.append(word < 2 ? 3 + random.nextInt(14) : random.nextInt(random.nextInt(9) == 0 ? 100 : 9)).append(' ');
            either(random, clause, 0, word < 2);
            if (text.length() + clause.length() <= 100) {
                text.append(clause);
            }
        }
        if (text.length() > 0 && random.nextInt(4) == 0) {
            spoil(random, text);
        }
        return text.toString();
    }

    private static void either(Random random, StringBuilder to, int depth, boolean deep) {
        for (int i = random.nextInt(3) / 2; i >= 0; i--) {
            for (int k = random.nextInt(3) / 2; k >= 0; k--) {
                factor(random, to, depth, deep);
                to.append(k > 0 ? "&" : "");
            }
            to.append(i > 0 ? "|" : "");
        }
    }

    private static void factor(Random random, StringBuilder to, int depth, boolean deep) {
        int sort = random.nextInt(4 + depth * 3);
        if (sort == 0 && depth < 6) {
            to.append('!');
            factor(random, to, depth + 1, deep);
        } else if (sort == 1 && depth < 6) {
            to.append('(');
            either(random, to, depth + 1, deep);
            to.append(')');
        } else {
            char letter = deep && random.nextInt(8) > 0 ? 'm' : "mxyckt".charAt(random.nextInt(6));
            int most = letter == 'm' ? 13 : letter == 'y' || letter == 't' ? 2 : letter == 'c' ? 10 : 7;
            to.append(letter).append("<=>".charAt(random.nextInt(3)));
            to.append(random.nextInt(20) == 0 ? "0" : "").append(random.nextInt(most));
        }
    }

    private static void spoil(Random random, StringBuilder text) {
        String signs = "dechrpus 0123456789mxykt<=>!()&|;";
        int at = random.nextInt(text.length());
        char sign = signs.charAt(random.nextInt(signs.length()));
        switch (random.nextInt(4)) {
            case 0:
                text.deleteCharAt(at);
                break;
            case 1:
                if (text.length() < 100) {
                    text.insert(at, sign);
                }
                break;
            case 2:
                text.setCharAt(at, sign);
                break;
            default:
                text.setLength(at);
        }
    }
}
