import java.lang.reflect.InvocationTargetException;
import java.lang.reflect.Method;
import java.util.ArrayList;
import java.util.Arrays;
import java.util.HashMap;
import java.util.List;
import java.util.Map;

/**
 * An object called by lines: "creak 0 9 = 3" calls creak(0, 9), for which 3 is due.
 * "of 0 10..21 = 3" makes a call for each number of the range, each of which has to answer 3 (or as
 * many answers as calls stand behind the =); "4* still 30" makes four; "text .." feeds a text;
 * "night .." feeds a text and makes it a NIGHT; "new" takes a new object.
 */
final class Calls {
    /** An object is used for so many calls at most. */
    static final int MOST = 512;

    private final Object target;
    private final Map<String, Method> methods = new HashMap<>();
    private int made;

    /** Calls of a new object of the class. */
    Calls() {
        this(new OnTiptoe());
    }

    /** Calls of anything that has such methods. */
    Calls(Object target) {
        this.target = target;
        for (Method method : target.getClass().getDeclaredMethods()) {
            methods.put(method.getName(), method);
        }
    }

    /** Runs a block of lines and looks at the answers that are due. */
    static void run(Check check, String sentence, String block) {
        Calls calls = new Calls();
        for (String each : block.split("\n")) {
            String line = each.strip();
            if (line.equals("new")) {
                calls = new Calls();
            } else if (!line.isEmpty()) {
                calls.line(check, sentence, line);
            }
        }
    }

    /** The answers to all lines of a block, whatever is due. */
    List<Long> answersOf(String block) {
        List<Long> answers = new ArrayList<>();
        for (String each : block.split("\n")) {
            if (!each.isBlank()) {
                answers.addAll(answers(each.strip()));
            }
        }
        return answers;
    }

    int made() {
        return made;
    }

    void line(Check check, String sentence, String line) {
        int cut = line.lastIndexOf(" = ");
        List<Long> got = answers(cut < 0 ? line : line.substring(0, cut));
        if (cut >= 0) {
            String[] due = line.substring(cut + 3).strip().split(" +");
            boolean one = due.length == 1;
            check.due(sentence + ": " + line + ", calls", one ? 1 : got.size(), due.length);
            for (int i = 0; i < got.size() && (one || i < due.length); i++) {
                check.due(sentence + ": " + line + ", call " + i, got.get(i), number(due[one ? 0 : i]));
            }
        }
        check.due(sentence + ": an object is used for 512 calls at most", made <= MOST ? 1 : 0, 1);
    }

    /** The answers to the calls that a line asks for. */
    List<Long> answers(String line) {
        List<Long> answers = new ArrayList<>();
        int times = line.indexOf("* ");
        if (times > 0 && line.substring(0, times).matches("\\d+")) {
            for (int i = Integer.parseInt(line.substring(0, times)); i > 0; i--) {
                answers = answers(line.substring(times + 2));
            }
        } else if (line.startsWith("text ")) {
            answers.add(feed(line.substring(5)));
        } else if (line.startsWith("night ")) {
            feed(line.substring(6));
            answers.add(call("night", new String[0]));
        } else {
            String[] words = line.split(" +");
            spread(words, 1, answers);
        }
        return answers;
    }

    private long feed(String text) {
        long last = 0;
        for (char sign : text.toCharArray()) {
            last = call("feed", new String[] {Integer.toString(sign)});
        }
        return last;
    }

    private void spread(String[] words, int from, List<Long> answers) {
        for (int i = from; i < words.length; i++) {
            int dots = words[i].indexOf("..");
            if (dots > 0) {
                String[] one = words.clone();
                for (long n = number(words[i].substring(0, dots)); n <= number(words[i].substring(dots + 2)); n++) {
                    one[i] = Long.toString(n);
                    spread(one, i + 1, answers);
                }
                return;
            }
        }
        answers.add(call(words[0], Arrays.copyOfRange(words, 1, words.length)));
    }

    private long call(String name, String[] words) {
        Method method = methods.get(name);
        made++;
        try {
            return ((Number) method.invoke(target, arguments(method, words))).longValue();
        } catch (InvocationTargetException | IllegalAccessException e) {
            throw new IllegalStateException(name + " " + String.join(" ", words) + " threw " + e.getCause(), e);
        }
    }

    private static Object[] arguments(Method method, String[] words) {
        Class<?>[] types = method.getParameterTypes();
        if (types.length != words.length) {
            throw new IllegalArgumentException(method + " with " + words.length + " arguments");
        }
        Object[] arguments = new Object[words.length];
        for (int i = 0; i < words.length; i++) {
            if (types[i] == boolean.class) {
                arguments[i] = words[i].equals("true");
            } else if (types[i] == long.class) {
                arguments[i] = number(words[i]);
            } else {
                arguments[i] = Math.toIntExact(number(words[i]));
            }
        }
        return arguments;
    }

    private static long number(String word) {
        switch (word) {
            case "MAX":
                return Integer.MAX_VALUE;
            case "MIN":
                return Integer.MIN_VALUE;
            case "NO":
                return Long.MIN_VALUE;
            default:
                return Long.parseLong(word);
        }
    }
}
