import java.lang.reflect.Constructor;
import java.lang.reflect.Field;
import java.lang.reflect.Method;
import java.lang.reflect.Modifier;
import java.util.TreeSet;

/** The face of the class is the document's, and nothing else can be reached from outside. */
public final class FaceTest {
    private static final String[] METHODS = {
        "int add(int,int)", "int remove(int)", "int speed(int,int)", "int jump(int,int)",
        "int swap(int,int)", "int pass(int)", "int passToTurn()", "int set(int,int)",
        "int append(int)", "int clearBuffer()", "int firstError()", "int addAll()", "int undo()",
        "int mover(int,int)", "int contest(int,int)", "int nextTurn(int)", "int span(int,int)",
        "int count(int)", "int setting(int)", "int leaderAfter(int)", "int overtakes(int,int,int)",
        "int turnsIn(int)", "int leastSpeed(int,int)", "double leadShare(int)", "long digest()",
    };

    private FaceTest() {
    }

    public static void main(String[] args) {
        Check.due("NONE", LeadTimes.NONE, -1);
        int type = LeadTimes.class.getModifiers();
        Check.holds("the class is public and final", Modifier.isPublic(type) && Modifier.isFinal(type));
        Check.due("constructors", LeadTimes.class.getDeclaredConstructors().length, 1);
        for (Constructor<?> made : LeadTimes.class.getDeclaredConstructors()) {
            Check.holds("LeadTimes() is public", Modifier.isPublic(made.getModifiers()) && made.getParameterCount() == 0);
        }
        methods();
        for (Field field : LeadTimes.class.getDeclaredFields()) {
            boolean isPrivate = Modifier.isPrivate(field.getModifiers());
            Check.holds(field + " is private or NONE", isPrivate || field.getName().equals("NONE"));
        }
        for (Class<?> inside : LeadTimes.class.getDeclaredClasses()) {
            int how = inside.getModifiers();
            Check.holds(inside + " is inside", !Modifier.isPublic(how) && !Modifier.isProtected(how) && Modifier.isStatic(how));
        }
        Check.end();
    }

    private static void methods() {
        TreeSet<String> due = new TreeSet<>();
        TreeSet<String> names = new TreeSet<>();
        for (String method : METHODS) {
            due.add(method);
            names.add(method.substring(method.indexOf(' ') + 1, method.indexOf('(')));
        }
        TreeSet<String> got = new TreeSet<>();
        for (Method method : LeadTimes.class.getDeclaredMethods()) {
            if (Modifier.isPrivate(method.getModifiers())) {
                Check.holds(method + " has a name of its own", !names.contains(method.getName()));
                continue;
            }
            Check.holds(method + " is public, not static", Modifier.isPublic(method.getModifiers()) && !Modifier.isStatic(method.getModifiers()));
            StringBuilder parameters = new StringBuilder();
            for (Class<?> parameter : method.getParameterTypes()) {
                parameters.append(parameters.length() == 0 ? "" : ",").append(parameter.getName());
            }
            got.add(method.getReturnType().getName() + " " + method.getName() + "(" + parameters + ")");
        }
        Check.holds("the methods are " + due + " (they are " + got + ")", due.equals(got));
    }
}
