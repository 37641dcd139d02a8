import java.io.IOException;
import java.nio.file.Files;
import java.nio.file.Path;
import java.util.List;
import java.util.regex.Matcher;
import java.util.regex.Pattern;

/** Those rules of LANGUAGE.md that can be seen from the text of the program alone. */
public final class LanguageTest {
    private static final Path SOURCE = Path.of("src/main/java/NameRows.java");
    private static final String[] RULED_OUT = {
        "\\b(throw|throws|try|catch|synchronized|assert|import|package|yield|volatile|transient|native)\\b",
        "->", "::", "\\bExact\\b", "\\b(Object|System\\.(?!arraycopy)|Thread|Random)", "\\b(hashCode|toString)\\b",
        "\\bstatic\\s*\\{", "\\bwhile\\s*\\(\\s*true", "\\bfor\\s*\\(\\s*;", "[^\\x00-\\x7f]", "\\bnew\\s+\\w+\\s*\\([^)]*\\)\\s*\\{",
    };

    public static void main(String[] args) throws IOException {
        String text = Files.readString(SOURCE).replaceAll("(?s)/\\*.*?\\*/", "").replaceAll("//[^\n]*", "");
        for (String ruledOut : RULED_OUT) {
            Matcher found = Pattern.compile(ruledOut).matcher(text);
            Due.due("ruled out: " + ruledOut, found.find() ? 1 : 0, 0);
        }
        Due.due("classes, some twelve", Math.max(Pattern.compile("\\bclass\\b").matcher(text).results().count(), 12), 12);
        checkMethods(text.lines().toList());
        checkRoom(text);
        Due.end();
    }

    /** All calls share one room, so objects and arrays come from fields' first values and constructors alone. */
    private static void checkRoom(String text) {
        String constructors = "(?ms)^( {4}| {8})(public )?[A-Z]\\w*\\([^)]*\\) \\{$.*?^\\1\\}$";
        String firstValues = "(?m)^ +(private )?final [\\w\\[\\]]+ \\w+ = new .*;$";
        Matcher made = Pattern.compile(".*\\bnew\\b.*").matcher(text.replaceAll(constructors, "").replaceAll(firstValues, ""));
        Due.due("made by a call: " + (made.find() ? made.group() : ""), made.reset().find() ? 1 : 0, 0);
    }

    private static void checkMethods(List<String> lines) {
        Pattern head = Pattern.compile("^( {4}| {8})(?!private static final class|return|if|for|switch)\\w[\\w\\[\\] ]*\\((.*)\\) \\{$");
        for (int i = 0; i < lines.size(); i++) {
            Matcher matcher = head.matcher(lines.get(i));
            if (matcher.matches()) {
                int end = i;
                while (!lines.get(end).equals(matcher.group(1) + "}")) {
                    end++;
                }
                Due.due("at most sixty lines:" + lines.get(i), Math.max(end - i, 60), 60);
                Due.due("at most seven parameters:" + lines.get(i), Math.max(matcher.group(2).split(",").length, 7), 7);
            }
        }
    }
}
