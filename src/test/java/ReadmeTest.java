import java.io.IOException;
import java.nio.file.Files;
import java.nio.file.Path;
import java.util.ArrayList;
import java.util.List;
import java.util.regex.Matcher;
import java.util.regex.Pattern;

/** What README.md says: its calls answer as it tells, and its tables are those of the document. */
public final class ReadmeTest {
    private static final Path README = Path.of("README.md");
    private static final Path DOCUMENT = Path.of("../shared/DOC.md");
    private static final int PROMISES = 27;
    private static final Pattern WRITING = Pattern.compile(" +for \\(char sign : \"(.*)\"\\.toCharArray\\(\\)\\) notes\\.write\\(sign\\);");
    private static final Pattern CALL = Pattern.compile(" +notes\\.(.*); +// (-?\\d+).*");
    private static final Pattern ROW = Pattern.compile("\\| (\\d+) \\| `(.*)` \\| .* \\| ?(.*?) ?\\|");
    private static final Pattern CONSTANT = Pattern.compile("\\| `([A-Z]+)` \\| (-\\d) \\| (.*) \\|");

    public static void main(String[] args) throws IOException {
        List<String> lines = Files.readAllLines(README);
        examples(lines);
        constants(lines);
        if (Files.exists(DOCUMENT)) calls(lines, Files.readString(DOCUMENT));
        else System.out.println(DOCUMENT + " is not here: the table of calls was not compared with it");
        Run.that("README.md tells how to run the tests", lines.contains("    .ci/run"));
        Run.end("ReadmeTest");
    }

    private static void examples(List<String> lines) {
        Run run = null;
        for (String line : lines) {
            if (!line.startsWith("    ")) continue;
            if (line.contains("new PointingNotes()")) run = Run.fresh("README.md, '" + line.strip() + "'");
            Matcher writing = WRITING.matcher(line);
            Matcher call = CALL.matcher(line);
            if (run != null && writing.matches()) write(run, writing.group(1));
            if (!line.startsWith("    notes.")) continue;
            Run.that("an object and an answer of '" + line.strip() + "'", run != null && call.matches());
            if (run != null && call.matches()) run.due(call.group(1) + " = " + call.group(2));
        }
        Run.that("README.md has examples", run != null);
    }

    private static void write(Run run, String text) {
        for (int i = 0; i < text.length(); i++) run.due("write(" + (int) text.charAt(i) + ") = " + (i + 1));
    }

    private static void constants(List<String> lines) {
        List<String> told = new ArrayList<>();
        for (String line : lines) {
            Matcher row = CONSTANT.matcher(line);
            if (row.matches()) told.add(row.group(1) + " " + row.group(2));
        }
        List<String> due = List.of("UNKNOWN " + PointingNotes.UNKNOWN, "OUTSIDE " + PointingNotes.OUTSIDE,
            "STATE " + PointingNotes.STATE, "FULL " + PointingNotes.FULL, "NONE " + PointingNotes.NONE);
        Run.that("README.md's constants " + told, told.equals(due));
    }

    /** A row for every promise, with the document's parameters and its error codes in their order. */
    private static void calls(List<String> lines, String document) {
        int promise = 0;
        for (String line : lines) {
            Matcher row = ROW.matcher(line);
            if (!row.matches() || line.startsWith("| 0")) continue;
            promise++;
            Run.that("README.md's row " + promise + " has its number", row.group(1).equals(Integer.toString(promise)));
            String section = section(document, promise);
            Run.that("README.md's signature " + row.group(2), row.group(2).equals(signature(section)));
            Run.that("README.md's error codes of " + row.group(2), row.group(3).equals(String.join(", ", codes(section))));
        }
        Run.that("README.md has a row for each of " + PROMISES + " promises, not " + promise, promise == PROMISES);
    }

    private static String section(String document, int promise) {
        int start = document.indexOf("## Promise " + promise + ":");
        int end = document.indexOf("\n## ", start + 1);
        return start < 0 || end < start ? "" : document.substring(start, end);
    }

    /** The document's signature without types. */
    private static String signature(String section) {
        Matcher signature = Pattern.compile("\n`(.*)`\n").matcher(section);
        if (!signature.find()) return "";
        return signature.group(1).replaceAll("\\b(int|long|boolean) ", "");
    }

    private static List<String> codes(String section) {
        List<String> codes = new ArrayList<>();
        Matcher code = Pattern.compile("(UNKNOWN|OUTSIDE|STATE|FULL) if").matcher(section);
        while (code.find()) codes.add(code.group(1));
        return codes;
    }
}
