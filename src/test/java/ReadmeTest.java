import java.lang.reflect.Method;
import java.lang.reflect.Modifier;
import java.nio.file.Files;
import java.nio.file.Path;
import java.util.regex.Matcher;
import java.util.regex.Pattern;

/** The runs of calls in README.md answer as they say there, and every call is named. */
public final class ReadmeTest {
    private static final Pattern CALL = Pattern.compile("d\\.(\\w+\\([^()]*\\)); *// (-?\\d+)(: .*)?");
    private static final Pattern TEXT = Pattern.compile("feedText\\(d, \"([^\"]*)\"\\);");

    public static void main(String[] args) throws Exception {
        String readme = Files.readString(Path.of("README.md"));
        Script about = new Script("README.md");
        for (Method m : BracketDesk.class.getDeclaredMethods()) {
            if (Modifier.isPublic(m.getModifiers())) {
                about.check(m.getName(), readme.contains("`" + m.getName() + "`") ? "named" : "not named", "named");
            }
        }
        int calls = 0;
        Script run = null;
        for (String line : readme.split("\n")) {
            Matcher text = TEXT.matcher(line);
            Matcher call = CALL.matcher(line);
            if (line.startsWith("BracketDesk d = new")) {
                run = new Script("README.md");
            } else if (text.matches()) {
                run.rows("load(" + text.group(1) + ")");
            } else if (line.startsWith("d.")) {
                about.check(line, call.matches() ? "told" : "not told", "told");
                run.rows(call.group(1) + " = " + call.group(2));
                calls++;
            }
        }
        about.check("calls in README.md", calls < 30 ? "too few" : "enough", "enough");
        if (!Script.isFine()) {
            System.exit(1);
        }
    }
}
