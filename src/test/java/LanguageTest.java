import java.lang.reflect.Constructor;
import java.lang.reflect.Field;
import java.lang.reflect.Method;
import java.lang.reflect.Modifier;
import java.nio.file.Files;
import java.nio.file.Path;
import java.util.ArrayList;
import java.util.List;
import java.util.Set;
import java.util.TreeSet;
import java.util.regex.Matcher;
import java.util.regex.Pattern;

/** The face of the document and no other; and what can easily be seen of the rules of LANGUAGE.md. */
public final class LanguageTest {
    private static final Check C = new Check();
    private static final String FACE = "int creak(int,int) int toy(int,boolean) int door(int) int walker(int,int,int) "
        + "int of(int,int) int put(int,int) int row(int,int,int) int feed(int) int night() int told(int) "
        + "int step(int,int) int still(int) int lull() int way(int) int goes(int,int) int out(int) "
        + "int quiet(int,int) int set(int,int) int mend(int) int away(int) int from(int) int deeper(int) "
        + "int see(int,int,boolean) int who() long odds(int,int) long mean(int,int) int book(int) int looked() "
        + "int judge(int,int) int image() int undo() int act(int,int,int) int trace(int) int taken(int,int) "
        + "int count(int) int tape(int,int,int) int item(int,int,long) long read(int,int) "
        + "int shift(int,int,int,int,int)";
    private static final String WORDS = "throw throws try catch finally synchronized assert import package native volatile "
        + "transient System.out System.currentTimeMillis System.nanoTime Thread Random equals hashCode toString";

    public static void main(String[] args) throws Exception {
        face();
        shape();
        words();
        recursion();
        C.end("LanguageTest");
    }

    private static void same(String what, Object got, Object want) {
        if (!got.equals(want)) {
            System.out.println(what + ": " + got + ", due is " + want);
        }
        C.due(what, got.equals(want) ? 1 : 0, 1);
    }

    private static void face() {
        Class<?> it = OnTiptoe.class;
        same("public and final", Modifier.toString(it.getModifiers()), "public final");
        Set<String> methods = new TreeSet<>();
        Set<String> publicNames = new TreeSet<>();
        for (Method m : it.getDeclaredMethods()) {
            if (Modifier.isPrivate(m.getModifiers()) || m.isSynthetic()) {
                continue;
            }
            List<String> types = new ArrayList<>();
            for (Class<?> t : m.getParameterTypes()) {
                types.add(t.getName());
            }
            methods.add(m.getReturnType().getName() + " " + m.getName() + "(" + String.join(",", types) + ")");
            publicNames.add(m.getName());
            same(m.getName() + " is public", Modifier.toString(m.getModifiers()), "public");
        }
        Set<String> due = new TreeSet<>();
        Matcher each = Pattern.compile("(int|long) \\w+\\([^)]*\\)").matcher(FACE);
        while (each.find()) {
            due.add(each.group());
        }
        same("methods", methods, due);
        for (Class<?> c : allClasses()) {
            for (Method m : c.getDeclaredMethods()) {
                if (c != OnTiptoe.class || Modifier.isPrivate(m.getModifiers())) {
                    same("no inner method bears a public one's name: " + m.getName(), publicNames.contains(m.getName()), false);
                }
            }
        }
        Set<String> fields = new TreeSet<>();
        for (Field f : it.getDeclaredFields()) {
            if (!Modifier.isPrivate(f.getModifiers())) {
                fields.add(Modifier.toString(f.getModifiers()) + " " + f.getType() + " " + f.getName());
            }
        }
        String constant = "public static final ";
        same("constants", fields, new TreeSet<>(List.of(constant + "int NONE", constant + "int BAD",
            constant + "int STATE", constant + "int FULL", constant + "long NO")));
        Constructor<?>[] made = it.getDeclaredConstructors();
        same("one constructor", made.length, 1);
        same("it takes nothing and is public", made[0].getParameterCount() + Modifier.toString(made[0].getModifiers()), "0public");
    }

    private static List<Class<?>> allClasses() {
        List<Class<?>> all = new ArrayList<>(List.of(OnTiptoe.class.getDeclaredClasses()));
        all.add(OnTiptoe.class);
        return all;
    }

    private static void shape() {
        List<Class<?>> all = allClasses();
        same("some twelve classes", all.size() <= 12, true);
        for (Class<?> c : all) {
            int own = 0;
            for (Field f : c.getDeclaredFields()) {
                boolean isStatic = Modifier.isStatic(f.getModifiers());
                own += isStatic ? 0 : 1;
                same("static fields are final: " + f, !isStatic || Modifier.isFinal(f.getModifiers()), true);
            }
            same("some twenty fields: " + c, own <= 20, true);
            same("a class inside is static: " + c, c == OnTiptoe.class || Modifier.isStatic(c.getModifiers()), true);
            for (Method m : c.getDeclaredMethods()) {
                same("seven parameters at most: " + m, m.getParameterCount() <= 7, true);
                same("no lambdas: " + m, m.isSynthetic(), false);
            }
        }
    }

    private static void words() throws Exception {
        String source = Files.readString(Path.of("src/main/java/OnTiptoe.java"));
        String code = source.replaceAll("(?s)/\\*.*?\\*/", " ").replaceAll("//[^\n]*", " ")
            .replaceAll("\"[^\"\n]*\"", "\"\"").replaceAll("'[^'\n]*'", "' '");
        for (String word : WORDS.split(" ")) {
            boolean there = Pattern.compile("(?<![\\w.])" + Pattern.quote(word) + "(?!\\w)").matcher(code).find();
            same("the word " + word, there, false);
        }
        same("no lambda, no method reference", code.contains("->") || code.contains("::"), false);
        same("no annotation", code.contains("@"), false);
        same("no double or float", Pattern.compile("\\b(double|float)\\b").matcher(code).find(), false);
        same("every sign is plain", source.chars().allMatch(s -> s == '\n' || s >= 32 && s < 127), true);
        int length = 0;
        for (String line : source.split("\n")) {
            boolean starts = line.matches(" {4,8}(?:[\\w\\[\\]<>]+ )+\\w+\\(.*\\) \\{");
            length = starts ? 0 : length + 1;
            boolean ends = line.equals("    }") || line.equals("        }");
            if (ends) {
                C.due("a method of some sixty lines", length <= 60 ? 1 : 0, 1);
                length = Integer.MIN_VALUE / 2;
            }
        }
    }

    /** Rule 8 lets a method call itself if it is private and static; else only methods that call one another. */
    private static void recursion() throws Exception {
        Pattern head = Pattern.compile(" {4,8}((?:[\\w\\[\\]<>]+ )+)(\\w+)\\(.*\\) \\{");
        String name = "";
        boolean free = false;
        int methods = 0;
        for (String line : Files.readAllLines(Path.of("src/main/java/OnTiptoe.java"))) {
            Matcher starts = head.matcher(line);
            if (starts.matches()) {
                name = starts.group(2);
                free = starts.group(1).startsWith("private static ");
                methods++;
            } else if (!name.isEmpty()) {
                boolean calls = Pattern.compile("(?<![\\w.])" + name + "\\(").matcher(line).find();
                same(name + " calls itself", calls && !free, false);
            }
        }
        same("methods were looked at", methods > 100, true);
    }
}
