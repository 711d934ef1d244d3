import java.io.IOException;
import java.nio.charset.StandardCharsets;
import java.nio.file.Files;
import java.nio.file.Path;
import java.nio.file.Paths;
import java.util.List;
import java.util.TreeSet;
import java.util.regex.Matcher;
import java.util.regex.Pattern;

/** LANGUAGE.md, as far as the program's text tells it. */
public final class LanguageTest {
    private static final String[] NOT_IN_IT = {"->", "::", "\\bfinally\\b", "\\btry\\b", "\\bcatch\\b", "\\bsynchronized\\b",
        "\\bassert\\b", "\\bpackage\\b", "\\bvar\\b", "Exact\\(", "\\bSystem\\.(?!arraycopy)", "\\bThread\\b", "\\bRandom\\b",
        "\\bObject\\b", "\\bstatic \\{", "\\bequals\\(", "hashCode", "toString", "String\\.format", "\\bvolatile\\b",
        "\\bprotected\\b", "\\bnative\\b", "\\bLong\\.MAX_VALUE\\b.*\\*", "\\bdouble\\b", "\\bfloat\\b", "\\.stream\\(",
        "Arrays\\.fill\\(\\w+, (true|false)\\)"};
    private static final String[] LIBRARY = {"java.util.ArrayList", "java.util.Arrays", "java.util.NoSuchElementException"};
    private static final int MOST_LINES = 60;

    public static void main(String[] args) throws IOException {
        Path path = Paths.get("src", "main", "java", "UnlikeBoats.java");
        List<String> lines = Files.readAllLines(path, StandardCharsets.UTF_8);
        int methodFrom = -1;
        for (int i = 0; i < lines.size(); i++) {
            String line = withoutComment(lines.get(i));
            for (String not : NOT_IN_IT) {
                Check.due("line " + (i + 1) + " has " + not, Pattern.compile(not).matcher(line).find(), false);
            }
            for (char c : line.toCharArray()) {
                if (c < 32 || c > 126) Check.due("line " + (i + 1) + " has a sign " + (int) c, 1, 0);
            }
            if (line.matches("    (    )?(public|private|static|int|long|boolean|void|char|[A-Z]\\w*)[^=;]*\\(.*\\{")) methodFrom = i;
            if (line.matches("    (    )?\\}") && methodFrom >= 0) {
                Check.due("lines of the method at " + (methodFrom + 1), i - methodFrom + 1 <= MOST_LINES, true);
                methodFrom = -1;
            }
        }
        imports(lines);
        Check.finish("LanguageTest");
    }

    private static String withoutComment(String line) {
        String bare = line.trim();
        if (bare.startsWith("*") || bare.startsWith("/*") || bare.startsWith("//")) return "";
        return line;
    }

    private static void imports(List<String> lines) {
        TreeSet<String> allowed = new TreeSet<>(List.of(LIBRARY));
        Pattern line = Pattern.compile("import (.*);");
        for (String one : lines) {
            Matcher matcher = line.matcher(one);
            if (matcher.matches()) Check.due("import of " + matcher.group(1), allowed.contains(matcher.group(1)), true);
        }
    }
}
