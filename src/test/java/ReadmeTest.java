import java.io.IOException;
import java.lang.reflect.Method;
import java.lang.reflect.Modifier;
import java.util.ArrayList;
import java.util.List;
import java.util.TreeMap;
import java.util.TreeSet;
import java.util.regex.Matcher;
import java.util.regex.Pattern;

/** README.md shows each call with its answer, and tells the exceptions that the class declares. */
public final class ReadmeTest {
    private static final Pattern ROW = Pattern.compile("\\| `(\\w+)` \\| (.*) \\|");
    private static final Pattern EXCEPTION = Pattern.compile("`(\\w+Exception)`");
    private static final String TABLE = "| call | what it throws |";

    private ReadmeTest() {
    }

    public static void main(String[] args) throws IOException {
        shownCalls();
        exceptions();
        Check.end();
    }

    private static void shownCalls() throws IOException {
        TreeSet<String> shown = new TreeSet<>();
        TreeSet<String> refused = new TreeSet<>();
        for (Readme.Line line : Readme.java()) {
            Readme.Call call = Readme.callOf(line);
            if (call != null) {
                Check.holds("README.md, line " + call.number() + ": it tells what is answered", !call.due().isEmpty());
                (call.throwsDue() ? refused : shown).add(call.method());
            }
        }
        for (Method method : LeadTimes.class.getDeclaredMethods()) {
            if (Modifier.isPublic(method.getModifiers())) {
                Check.holds("README.md shows " + method.getName(), shown.contains(method.getName()));
            }
        }
        Check.holds("README.md shows calls that are refused", !refused.isEmpty());
    }

    private static void exceptions() throws IOException {
        List<String> all = Readme.all();
        Check.holds("README.md has the table of exceptions", all.contains(TABLE));
        TreeMap<String, List<String>> told = new TreeMap<>();
        for (int i = all.indexOf(TABLE) + 1; i < all.size() && all.get(i).startsWith("|"); i++) {
            Matcher row = ROW.matcher(all.get(i));
            if (row.matches()) {
                told.put(row.group(1), exceptionsIn(row.group(2)));
            }
        }
        for (Method method : LeadTimes.class.getDeclaredMethods()) {
            if (Modifier.isPublic(method.getModifiers())) {
                List<String> row = told.remove(method.getName());
                List<String> due = declaredBy(method);
                Check.holds("README.md tells " + method.getName() + " " + due + " (it tells " + row + ")", due.equals(row));
            }
        }
        Check.holds("README.md tells no exceptions of other calls (it tells " + told + ")", told.isEmpty());
    }

    private static List<String> exceptionsIn(String text) {
        List<String> names = new ArrayList<>();
        Matcher name = EXCEPTION.matcher(text);
        while (name.find()) {
            names.add(name.group(1));
        }
        return names;
    }

    private static List<String> declaredBy(Method method) {
        List<String> names = new ArrayList<>();
        for (Class<?> exception : method.getExceptionTypes()) {
            names.add(exception.getSimpleName());
        }
        return names;
    }
}
