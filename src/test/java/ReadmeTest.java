import java.io.IOException;
import java.lang.reflect.Method;
import java.lang.reflect.Modifier;
import java.nio.file.Files;
import java.nio.file.Path;
import java.util.Arrays;
import java.util.Set;
import java.util.TreeSet;
import java.util.regex.Matcher;
import java.util.regex.Pattern;

/** README.md says how to use the class: its run answers as it tells, and shows every call. Runs at the project's root. */
public final class ReadmeTest {
    private static final Pattern FED = Pattern.compile("for \\(char c : \"(.*)\"\\.toCharArray\\(\\)\\) x\\.feed\\(c\\);");
    private static final Pattern CALL = Pattern.compile("x\\.(\\w+)\\(([-\\d, ]*)\\); +// (-?\\d+): .+");

    private final Check check = new Check();
    private final SeasonBound x = new SeasonBound();
    private final Set<String> shown = new TreeSet<>();

    public static void main(String[] args) throws IOException {
        ReadmeTest test = new ReadmeTest();
        String readme = Files.readString(Path.of("README.md"));
        String run = readme.substring(readme.indexOf("```java\n") + 8);
        run.substring(0, run.indexOf("```")).lines().forEach(test::line);
        test.everyCallIsShown();
        test.check.finish("ReadmeTest");
    }

    private void line(String line) {
        Matcher fed = FED.matcher(line);
        Matcher call = CALL.matcher(line);
        if (fed.matches()) {
            Check.feed(x, fed.group(1));
            shown.add("feed");
        } else if (call.matches()) {
            int[] numbers = Arrays.stream(call.group(2).split(", ")).filter(n -> !n.isEmpty()).mapToInt(Integer::parseInt).toArray();
            check.due(line, Call.on(x, call.group(1), numbers), Long.parseLong(call.group(3)));
            shown.add(call.group(1));
        } else {
            check.holds("a line that is understood: " + line,
                line.isEmpty() || line.startsWith("//") || line.equals("SeasonBound x = new SeasonBound();"));
        }
    }

    private void everyCallIsShown() {
        for (Method m : SeasonBound.class.getDeclaredMethods()) {
            if (Modifier.isPublic(m.getModifiers())) {
                check.holds("README.md shows " + m.getName(), shown.contains(m.getName()));
            }
        }
    }
}
