import java.io.IOException;
import java.nio.charset.StandardCharsets;
import java.nio.file.DirectoryStream;
import java.nio.file.Files;
import java.nio.file.Path;
import java.nio.file.Paths;
import java.util.ArrayList;
import java.util.List;
import java.util.TreeSet;
import java.util.regex.Matcher;
import java.util.regex.Pattern;

/**
 * The parts under src/test/edges: for each sentence of the document that names a boundary, calls at it and one step
 * beyond. A part begins with "== 12 13 | the sentence", with the numbers of the promises that it is about. What is
 * refused in it must change nothing (Twin).
 */
public final class EdgesTest {
    private static final int PROMISES = 39;

    public static void main(String[] args) throws IOException {
        List<Part> parts = new ArrayList<>();
        try (DirectoryStream<Path> files = Files.newDirectoryStream(Paths.get("src", "test", "edges"), "*.txt")) {
            for (Path file : files) read(file, parts);
        }
        TreeSet<Integer> promises = new TreeSet<>();
        for (Part part : parts) {
            for (Matcher number = Pattern.compile("\\d+").matcher(part.title.split("\\|")[0]); number.find();) {
                promises.add(Integer.parseInt(number.group()));
            }
            run(part);
        }
        for (int promise = 1; promise <= PROMISES; promise++) {
            Check.due("promise " + promise + " has parts", promises.contains(promise), true);
        }
        System.out.println(parts.size() + " parts");
        Check.finish("EdgesTest");
    }

    private static void read(Path file, List<Part> parts) throws IOException {
        Part part = null;
        for (String line : Files.readAllLines(file, StandardCharsets.UTF_8)) {
            if (line.isBlank() || line.startsWith("#")) continue;
            if (line.startsWith("==")) {
                part = new Part(line.substring(2).trim());
                parts.add(part);
            } else if (part != null) {
                part.read(line);
            }
        }
    }

    static void run(Part part) {
        Caller caller = new Caller();
        List<Step> told = new ArrayList<>();
        Twin twin = new Twin(told);
        for (Step step : part.steps) {
            long got = step.on(caller);
            if (step.due() != null) Check.due("[" + part.title + "] " + step, got, step.due());
            if (step.mayChange()) {
                told.add(step);
                twin = new Twin(told);
            } else if (step.isRefused()) {
                Check.due("[" + part.title + "] changes nothing: " + step, twin.isUnchangedBy(step), true);
            }
        }
        Check.due("[" + part.title + "] has so many calls", caller.calls() <= Caller.MOST_CALLS, true);
    }
}
