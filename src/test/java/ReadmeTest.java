import java.nio.file.Files;
import java.nio.file.Paths;
import java.util.regex.Matcher;
import java.util.regex.Pattern;

/** What README.md shows is what the class answers: each call there with a number behind it is made, in its order. */
public final class ReadmeTest {
    private static final Pattern TEXT = Pattern.compile("String text = \"([^\"]*)\"");
    private static final Pattern CALL = Pattern.compile("x\\.(\\w+\\([^)]*\\));\\s*// (-?\\d+|[A-Z]+)\\b");

    public static void main(String[] args) throws Exception {
        Check.part("README.md");
        Run run = Run.fresh();
        boolean isJava = false;
        int calls = 0;
        for (String line : Files.readAllLines(Paths.get("README.md"))) {
            if (line.startsWith("```")) {
                isJava = line.equals("```java");
            }
            Matcher text = TEXT.matcher(line);
            Matcher call = CALL.matcher(line);
            if (isJava && text.find()) {
                run.fed(text.group(1));
            } else if (isJava && call.find()) {
                run.says(call.group(1) + " = " + call.group(2));
                calls++;
            }
        }
        Check.holds("there are calls to be shown: " + calls, calls >= 20);
        Check.end();
    }
}
