import java.nio.file.Files;
import java.nio.file.Path;
import java.util.regex.Matcher;
import java.util.regex.Pattern;

/** Rules of ../shared/LANGUAGE.md that can be read off the program's words; run at the project's root. */
public final class RulesTest {
    private static final Due DUE = new Due("RulesTest");
    private static final String[] NOT_THERE = {"\\bthrow\\b", "\\bthrows\\b", "\\btry\\b", "\\bcatch\\b",
        "\\bsynchronized\\b", "\\bassert\\b", "\\bpackage\\b", "\\bnative\\b", "\\bvolatile\\b", "->", "::",
        "[^\\x00-\\x7f]", "\\bSystem\\.(?!arraycopy)", "\\w+Exact\\b", "\\bimport\\b", "\\bString\\b", "\\bObject\\b",
        "\\bstatic (?!final |class |boolean |int )", "\\bprotected\\b", "\\bThread\\b", "\\btoString\\b", "\""};

    public static void main(String[] args) throws Exception {
        String program = Files.readString(Path.of("src/main/java/MemberShelf.java"));
        String words = program.replaceAll("(?s)/\\*.*?\\*/", "").replaceAll("//[^\n]*", "");
        for (String pattern : NOT_THERE) {
            Matcher matcher = Pattern.compile(pattern).matcher(words);
            DUE.holds("no " + pattern, !matcher.find());
        }
        methodsAreShort(words);
        DUE.end();
    }

    /** A method's first line and its last one stand equally far in. */
    private static void methodsAreShort(String words) {
        Matcher method = Pattern.compile(
            "(?m)^( {4}| {8})((?:\\w+ )+\\w+)\\(([^)]*)\\) \\{\n(?s:(.*?))\n\\1\\}").matcher(words);
        int methods = 0;
        while (method.find()) {
            methods++;
            DUE.holds(method.group(2) + " is short", method.group(4).split("\n").length <= 58);
            DUE.holds(method.group(2) + " takes few", method.group(3).split(",").length <= 7);
        }
        DUE.holds("methods are found", methods > 40);
    }
}
