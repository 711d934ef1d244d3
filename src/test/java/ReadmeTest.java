import java.io.IOException;
import java.lang.reflect.InvocationTargetException;
import java.lang.reflect.Method;
import java.lang.reflect.Modifier;
import java.nio.charset.StandardCharsets;
import java.nio.file.Files;
import java.nio.file.Path;
import java.nio.file.Paths;
import java.util.Arrays;
import java.util.List;
import java.util.TreeMap;
import java.util.TreeSet;
import java.util.regex.Matcher;
import java.util.regex.Pattern;
import javax.tools.JavaCompiler;
import javax.tools.ToolProvider;

/**
 * What README.md shows: its java blocks are made into a class, each call with a look at the answer behind its arrow, and
 * that class is compiled and run; its parts are run as those under src/test/edges. A call without an answer, or one of
 * the face that is not shown, is a fault of the page.
 */
public final class ReadmeTest {
    private static final Path PAGE = Paths.get("README.md");
    private static final Path MADE = Paths.get("build", "readme");
    private static final Pattern NEW = Pattern.compile("UnlikeBoats \\w+ = new UnlikeBoats\\(\\);");
    private static final Pattern CALL = Pattern.compile(
        "((?:x\\.)?(\\w+)\\(.*\\)); +// -> (true|false|NONE|HIDDEN|NoSuchElementException|-?\\d+)(, .+)?");
    private static final Pattern REFUSED = Pattern.compile(
        "\\| (.+) \\| (?:throws )?`(NONE|HIDDEN|false|NoSuchElementException)`.*\\|");

    private final TreeMap<String, String> refused = new TreeMap<>();
    private final StringBuilder calls = new StringBuilder();
    private final StringBuilder methods = new StringBuilder();
    private final TreeSet<String> shown = new TreeSet<>();
    private Part part;
    private int parts = 0;

    public static void main(String[] args) throws IOException, ReflectiveOperationException {
        ReadmeTest test = new ReadmeTest();
        test.read(Files.readAllLines(PAGE, StandardCharsets.UTF_8));
        Check.due("README.md shows a part", test.parts > 0, true);
        test.dueAllShown();
        test.dueRefused();
        test.compileAndRun();
        Check.finish("ReadmeTest");
    }

    private void read(List<String> lines) {
        String block = null;
        boolean first = false;
        boolean method = false;
        for (int i = 0; i < lines.size(); i++) {
            String line = lines.get(i);
            if (line.startsWith("```")) {
                block = block == null ? line.substring(3) : null;
                first = true;
                runPart();
                continue;
            }
            if (block == null) readRefused(line);
            if (block == null || line.isBlank()) continue;
            if (first) method = line.startsWith("static ");
            first = false;
            if (block.equals("part")) readPart(line);
            else if (block.equals("java") && method) methods.append("    ").append(line).append('\n');
            else if (block.equals("java")) readCall("README.md, line " + (i + 1) + ": ", line.trim());
        }
        Check.due("README.md ends within a block", block != null, false);
    }

    /** A line of the table that tells how refused calls answer: names of calls, or "all others". */
    private void readRefused(String line) {
        Matcher row = REFUSED.matcher(line);
        if (!row.matches()) return;
        for (String name : row.group(1).replace("`", "").split(", ")) refused.put(name, row.group(2));
    }

    private void readPart(String line) {
        if (part == null) part = new Part("README.md " + line.substring(2).trim());
        else part.read(line);
    }

    private void runPart() {
        if (part == null) return;
        EdgesTest.run(part);
        part = null;
        parts++;
    }

    private void readCall(String where, String line) {
        if (NEW.matcher(line).matches()) {
            calls.append("        ").append(line).append('\n');
            return;
        }
        Matcher call = CALL.matcher(line);
        boolean told = call.matches();
        Check.due(where + line + " tells its answer", told, true);
        if (!told) return;
        shown.add(call.group(2));
        String asText = "\"" + (where + call.group(1)).replace("\"", "\\\"") + "\"";
        calls.append("        ").append(asked(asText, call.group(1), call.group(3))).append('\n');
    }

    private static String asked(String text, String call, String answer) {
        if (answer.equals("NoSuchElementException")) {
            return "try { Check.due(" + text + " + \" throws\", " + call + ", Long.MIN_VALUE); }"
                + " catch (java.util.NoSuchElementException e) { Check.due(" + text + ", 1, 1); }";
        }
        boolean constant = answer.equals("NONE") || answer.equals("HIDDEN");
        return "Check.due(" + text + ", " + call + ", " + (constant ? "UnlikeBoats." + answer : answer) + ");";
    }

    private void dueAllShown() {
        for (Method one : UnlikeBoats.class.getDeclaredMethods()) {
            if (!Modifier.isPublic(one.getModifiers())) continue;
            Check.due("README.md shows " + one.getName(), shown.contains(one.getName()), true);
        }
    }

    /** An object that has all BOATS and a full TAPE refuses all calls with -1 but fault, and answers as the table tells. */
    private void dueRefused() {
        Caller caller = new Caller();
        for (int i = 0; i < 16; i++) caller.make("boat");
        for (int i = 0; i < 10; i++) caller.make("feed", -1, -1, -1, -1, -1);
        for (Method one : UnlikeBoats.class.getDeclaredMethods()) {
            if (!Modifier.isPublic(one.getModifiers()) || one.getName().equals("fault")) continue;
            long[] args = new long[one.getParameterCount()];
            Arrays.fill(args, -1);
            String told = refused.getOrDefault(one.getName(), refused.getOrDefault("all others", "nothing"));
            boolean yesOrNo = one.getReturnType() == boolean.class;
            Check.due(one.getName() + " refused tells yes or no", told.equals("false"), yesOrNo);
            Check.due(one.getName() + " refused answers " + told, caller.make(one.getName(), args), number(told));
        }
        Check.due("count(0) behind what was refused", caller.make("count", 0), 0);
        Check.due("count(1) behind what was refused", caller.make("count", 1), 16);
        Check.due("count(8) behind what was refused", caller.make("count", 8), 200);
    }

    private static long number(String answer) {
        switch (answer) {
            case "NONE": return UnlikeBoats.NONE;
            case "HIDDEN": return UnlikeBoats.HIDDEN;
            case "false": return 0;
            case "NoSuchElementException": return Caller.THROWN;
            default: return Long.MAX_VALUE;
        }
    }

    private void compileAndRun() throws IOException, ReflectiveOperationException {
        Files.createDirectories(MADE);
        Path source = MADE.resolve("ReadmeCalls.java");
        Files.writeString(source, "public final class ReadmeCalls {\n" + methods + "\n    public static void run() {\n" + calls
            + "    }\n}\n");
        JavaCompiler compiler = ToolProvider.getSystemJavaCompiler();
        // Among the other classes, as only those of one loader see what is not public.
        String classes = System.getProperty("java.class.path");
        int exit = compiler.run(null, null, null, "-cp", classes, "-d", classes, source.toString());
        Check.due("README.md's calls compile", exit, 0);
        if (exit != 0) return;
        try {
            Class.forName("ReadmeCalls").getMethod("run").invoke(null);
        } catch (InvocationTargetException e) {
            throw new IllegalStateException("README.md's calls throw", e.getCause());
        }
    }
}
