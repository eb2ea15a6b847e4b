import java.io.IOException;
import java.lang.reflect.Method;
import java.lang.reflect.Modifier;
import java.nio.charset.StandardCharsets;
import java.nio.file.Files;
import java.nio.file.Path;
import java.util.regex.Matcher;
import java.util.regex.Pattern;

/** What README.md says of the use of the class: its example answers as it says, and it names every call. */
public final class ReadmeTest {
    private static final Due DUE = new Due("ReadmeTest");
    private static final Pattern CALL = Pattern.compile("judge\\.(\\w+\\(.*\\));\\s+// ([-\\w]+)(: .*)?");
    private static final String BLOCK = "```java\n";

    public static void main(String[] args) throws IOException {
        String readme = Files.readString(Path.of("README.md"), StandardCharsets.UTF_8);
        int from = readme.indexOf(BLOCK);
        int to = from < 0 ? -1 : readme.indexOf("```", from + BLOCK.length());
        DUE.is("README.md has an example", to > 0, true);
        if (to > 0) {
            example(readme.substring(from + BLOCK.length(), to).split("\n"));
        }
        for (Method m : CompatibilityJudge.class.getDeclaredMethods()) {
            if (Modifier.isPublic(m.getModifiers())) {
                DUE.is("README.md names " + m.getName(), readme.contains("`" + m.getName() + "`"), true);
            }
        }
        DUE.end();
    }

    private static void example(String[] lines) {
        CompatibilityJudge judge = new CompatibilityJudge();
        int calls = 0;
        for (String line : lines) {
            if (line.isBlank() || line.startsWith("//") || line.startsWith("CompatibilityJudge judge = new ")) {
                continue;
            }
            Matcher call = CALL.matcher(line);
            DUE.is("a call with its answer: " + line, call.matches(), true);
            if (call.matches()) {
                calls++;
                // Edge knows the constants by their bare names.
                String asked = call.group(1).replace("CompatibilityJudge.", "");
                String want = call.group(2).equals("NONE") ? "-2" : call.group(2);
                DUE.is("README.md: " + asked, Edge.answer(judge, asked), want);
            }
        }
        DUE.is("the example has calls", calls > 0, true);
    }
}
