import java.lang.reflect.Method;
import java.lang.reflect.Modifier;
import java.nio.file.Files;
import java.nio.file.Path;
import java.util.ArrayList;
import java.util.List;
import java.util.regex.Matcher;
import java.util.regex.Pattern;

/** README.md's example answers what it says, and its table has every call; run at the project's root. */
public final class ReadmeTest {
    private static final Due DUE = new Due("ReadmeTest");
    private static final Pattern CALL = Pattern.compile("(?m)^shelf\\.(\\w+\\(.*\\)); +// (-?\\d+)");

    public static void main(String[] args) throws Exception {
        String readme = Files.readString(Path.of("README.md"));
        DUE.answers(example(readme));
        for (Method method : MemberShelf.class.getDeclaredMethods()) {
            if (Modifier.isPublic(method.getModifiers())) {
                boolean isNamed = readme.matches("(?s).*\\n\\|[^\\n]*`" + method.getName() + "\\(.*");
                DUE.holds("that the table has " + method.getName(), isNamed);
            }
        }
        DUE.end();
    }

    private static List<Call> example(String readme) {
        List<Call> calls = new ArrayList<>();
        Matcher call = CALL.matcher(readme);
        while (call.find()) {
            calls.addAll(Call.all(call.group(1).replaceAll("'(.)'", "$1") + " = " + call.group(2)));
        }
        long lines = readme.lines().filter(line -> line.startsWith("shelf.")).count();
        DUE.is("the example's calls that are made", calls.size(), lines);
        DUE.holds("that there is an example", lines > 0);
        return calls;
    }
}
