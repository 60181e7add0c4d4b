import java.io.IOException;

/** Makes a test of the Java that README.md shows, and prints it: the class ReadmeCalls. */
public final class ReadmeProgram {
    private ReadmeProgram() {
    }

    public static void main(String[] args) throws IOException {
        System.out.println("public final class ReadmeCalls {");
        System.out.println("    public static void main(String[] args) {");
        for (Readme.Line line : Readme.java()) {
            Readme.Call call = Readme.callOf(line);
            System.out.println(call == null ? line.java() : checked(call));
        }
        System.out.println("        Check.end();");
        System.out.println("    }");
        System.out.println("}");
    }

    private static String checked(Readme.Call call) {
        String name = "\"README.md, line " + call.number() + ": " + call.java().replace("\"", "\\\"") + "\"";
        if (!call.throwsDue()) {
            return "Check.due(" + name + ", " + call.java() + ", " + call.due() + ");";
        }
        String exception = call.due().substring("throws ".length());
        return "Check.dueThrown(" + name + ", " + call.object() + ", " + exception + ".class, () -> " + call.java() + ");";
    }
}
