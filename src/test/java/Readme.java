import java.io.IOException;
import java.nio.file.Files;
import java.nio.file.Path;
import java.util.ArrayList;
import java.util.List;
import java.util.regex.Matcher;
import java.util.regex.Pattern;

/** README.md as the tests read it: the lines of its Java, and the calls there with what they answer. */
final class Readme {
    private static final Pattern CALL = Pattern.compile("(\\w+)\\.(\\w+)\\((.*?)\\);(?: +// (.*))?");

    /** A line of Java, and its number in README.md. */
    record Line(int number, String java) {
    }

    /** A call on an object; what is due is its answer, or "throws" and an exception's name. */
    record Call(int number, String object, String method, String arguments, String due) {
        String java() {
            return object + "." + method + "(" + arguments + ")";
        }

        boolean throwsDue() {
            return due.startsWith("throws ");
        }
    }

    private Readme() {
    }

    static List<String> all() throws IOException {
        return Files.readAllLines(Path.of("README.md"));
    }

    /** All lines between ```java and the next ```. */
    static List<Line> java() throws IOException {
        List<Line> lines = new ArrayList<>();
        boolean inside = false;
        List<String> all = all();
        for (int i = 0; i < all.size(); i++) {
            String line = all.get(i);
            if (line.startsWith("```")) {
                inside = !inside && line.equals("```java");
            } else if (inside) {
                lines.add(new Line(i + 1, line));
            }
        }
        return lines;
    }

    /** The call of a line, if it is nothing but one; null otherwise. Words behind a colon tell more. */
    static Call callOf(Line line) {
        Matcher matcher = CALL.matcher(line.java);
        if (!matcher.matches()) {
            return null;
        }
        String told = matcher.group(4) == null ? "" : matcher.group(4).split(":")[0].trim();
        return new Call(line.number, matcher.group(1), matcher.group(2), matcher.group(3), told);
    }
}
