import java.nio.file.Files;
import java.nio.file.Path;
import java.util.regex.Matcher;
import java.util.regex.Pattern;

/** What can be seen of LANGUAGE.md's rules in the source itself; run from the project's folder. */
public final class SourceTest {
    /** Each with the rule that it would break. */
    private static final String[][] BARRED = {
        {"2", "->"}, {"2", "::"}, {"4", "\\w+Exact\\b"}, {"4", "import (?!java\\.util\\.(NoSuchElementException|Arrays|ArrayList|List);)"},
        {"5", "static \\{"}, {"5", "\\bstatic (?!final )[\\w\\[\\]]+ \\w+ *[=;]"}, {"6", "\\b(finally|synchronized|assert|try|catch)\\b"},
        {"6", "throw new (?!NoSuchElementException\\(\\))"}, {"10", "\" \\+|\\+ \""}, {"13", "System\\.(?!arraycopy)"},
        {"13", "\\b(Random|Thread|Runtime)\\b"}, {"3", "\\b(Object|var|record)\\b"}, {"9", "while \\(true\\)|for \\(;;\\)"},
    };

    public static void main(String[] args) throws Exception {
        String source = Files.readString(Path.of("src/main/java/PowerChains.java"));
        String code = source.replaceAll("(?s)/\\*.*?\\*/", "").replaceAll("//[^\n]*", "");
        for (String[] barred : BARRED) {
            Matcher m = Pattern.compile(barred[1]).matcher(code);
            Due.is("rule " + barred[0] + ": /" + barred[1] + "/", m.find() ? 1 : 0, 0);
        }
        Due.is("signs are 1 to 127", source.chars().filter(c -> c > 127 || c == 0).count(), 0);
        Due.is("one throw", code.split("throw new").length - 1, 1);
        methods(code);
        Due.end();
    }

    private static void methods(String code) {
        Matcher m = Pattern.compile("(?m)^( +)[\\w\\[\\] ]*?\\b(\\w+)\\(([^()]*)\\)[\\w ]* \\{\n(?s:(.*?))\n\\1\\}\n").matcher(code);
        int seen = 0;
        while (m.find()) {
            seen++;
            Due.is("rule 11: lines of " + m.group(2), m.group(4).split("\n").length <= 60 ? 1 : 0, 1);
            Due.is("rule 11: parameters of " + m.group(2), m.group(3).split(",").length <= 7 ? 1 : 0, 1);
        }
        Due.is("methods seen", seen > 60 ? 1 : 0, 1);
    }
}
