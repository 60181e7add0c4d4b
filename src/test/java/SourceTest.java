import java.io.IOException;
import java.nio.file.Files;
import java.nio.file.Path;
import java.util.regex.Matcher;
import java.util.regex.Pattern;

/** The source keeps to those rules of LANGUAGE.md that its words show; run in the project's folder. */
public final class SourceTest {
    private static final String[] FORBIDDEN = {
        "\\bimport\\b", "\\bpackage\\b", "->", "::", "\\btry\\b", "\\bcatch\\b", "\\bfinally\\b", "\\bassert\\b",
        "\\bsynchronized\\b", "\\bprotected\\b", "\\bjava\\.", "\\bSystem\\.(?!arraycopy)", "Exact\\(", "\\bDouble\\b",
        "\\bThread\\b", "\\bequals\\(", "\\bhashCode\\b", "\\btoString\\b", "\\bstatic \\{",
    };
    private static final int LINES_AT_MOST = 60;
    private static final Pattern METHOD = Pattern.compile("(?m)^ +[\\w\\[\\] ]*\\b(\\w+)\\(([^()]*)\\)[\\w\\s,]*\\{$");

    private SourceTest() {
    }

    public static void main(String[] args) throws IOException {
        String all = Files.readString(Path.of("src/main/java/LeadTimes.java"));
        String source = all.replaceAll("(?s)/\\*.*?\\*/", "").replaceAll("//.*", "").replaceAll("\"[^\"]*\"", "\"\"");
        for (String words : FORBIDDEN) {
            Matcher found = Pattern.compile(words).matcher(source);
            Check.holds("no " + words, !found.find());
        }
        for (int i = 0; i < all.length(); i++) {
            Check.holds("a sign of 1 to 127 at " + i, all.charAt(i) >= 1 && all.charAt(i) <= 127);
        }
        Matcher method = METHOD.matcher(source);
        int methods = 0;
        while (method.find()) {
            String name = method.group(1);
            if (name.equals("if") || name.equals("for") || name.equals("while") || name.equals("switch")) {
                continue;
            }
            methods++;
            Check.holds(name + " is short", linesFrom(source, method.end()) <= LINES_AT_MOST);
            Check.holds(name + " takes at most seven", method.group(2).split(",").length <= 7);
        }
        Check.holds("methods are found (" + methods + ")", methods >= 26);
        Check.end();
    }

    private static int linesFrom(String source, int begin) {
        int open = 1;
        int lines = 0;
        for (int i = begin; i < source.length() && open > 0; i++) {
            char sign = source.charAt(i);
            open += sign == '{' ? 1 : sign == '}' ? -1 : 0;
            lines += sign == '\n' ? 1 : 0;
        }
        return lines;
    }
}
