import java.nio.file.Files;
import java.nio.file.Path;
import java.util.regex.Matcher;
import java.util.regex.Pattern;

/** The example of README.md answers as it says there, and README.md names every call. */
public final class ReadmeTest {
    private static final Check C = new Check();
    private static final Pattern TEXT = Pattern.compile("for \\(char c : \"([^\"]*)\"\\.toCharArray.*");
    private static final Pattern FED = Pattern.compile("x\\.feed\\(c\\); +// (-?\\d+): .*");
    private static final Pattern CALL = Pattern.compile("x\\.(\\w+)\\(([^)]*)\\); +// (-?\\d+): .*");

    public static void main(String[] args) throws Exception {
        String readme = Files.readString(Path.of("README.md"));
        StringBuilder block = new StringBuilder();
        String text = "";
        for (String each : readme.split("\n")) {
            String line = each.strip();
            Matcher told = TEXT.matcher(line);
            Matcher fed = FED.matcher(line);
            Matcher call = CALL.matcher(line);
            if (told.matches()) {
                text = told.group(1);
            } else if (fed.matches()) {
                block.append("text ").append(text).append(" = ").append(fed.group(1)).append('\n');
            } else if (call.matches()) {
                block.append(call.group(1)).append(' ').append(call.group(2).replace(",", " ")).append(" = ")
                    .append(call.group(3)).append('\n');
            } else {
                C.due("a line of the example that is not read: " + line, line.startsWith("x.") ? 1 : 0, 0);
            }
        }
        C.due("the example's calls", block.toString().split("\n").length, 9);
        C.edge("README.md", block.toString());
        for (var method : OnTiptoe.class.getDeclaredMethods()) {
            if (java.lang.reflect.Modifier.isPublic(method.getModifiers())) {
                C.due("README.md names " + method.getName(), readme.contains("`" + method.getName() + "`") ? 1 : 0, 1);
            }
        }
        C.end("ReadmeTest");
    }
}
