import java.io.IOException;
import java.nio.file.Files;
import java.nio.file.Path;
import java.util.ArrayList;
import java.util.List;

/**
 * A sentence of the document that names a boundary case, with the number of the promise in which it is tested. Every run
 * that is made for it bears both in its title.
 */
final class Sentence {
    private static final Path DOCUMENT = Path.of("../shared/DOC.md");
    private static final int PROMISES = 27;
    /** The words at the head of the description's paragraphs. */
    private static final String HEADINGS =
        "Papers and their text|Cases|Resolving references|Shorter forms|Edits|Observations|Partial papers|Results and error codes";
    private static final List<Sentence> ALL = new ArrayList<>();

    private final int promise;
    private final String words;

    private Sentence(int promise, String words) {
        this.promise = promise;
        this.words = words;
        ALL.add(this);
    }

    static Sentence of(int promise, String words) {
        return new Sentence(promise, words);
    }

    private String title() {
        return "promise " + promise + ", '" + words + "'";
    }

    Run fresh() {
        return Run.fresh(title());
    }

    /** A run on a new object that has read this text as its paper. */
    Run on(String text) {
        return Run.on(title(), text);
    }

    /** A run on a new object with this text, which need not be a paper. */
    Run text(String text) {
        return Run.fresh(title()).text(text);
    }

    void holds(boolean holds) {
        Run.that(title(), holds);
    }

    void fault(int due, String... texts) {
        for (String text : texts) text(text).due("fault() = " + due);
    }

    /** Of all 256 bytes, just these can follow such a beginning of a text. */
    void next(String before, String taken) {
        for (char sign = 0; sign < 256; sign++) {
            Run run = text(before + sign);
            boolean refused = run.notes().fault() == before.length();
            run.check("taking of the byte " + (int) sign + " after " + before, refused ? 0 : 1, taken.indexOf(sign) >= 0 ? 1 : 0);
        }
    }

    // ---- the document itself

    /** Every sentence that is tested stands in the document, and every one that stands there is tested. */
    static void compareWithDocument() throws IOException {
        if (!Files.exists(DOCUMENT)) {
            System.out.println(DOCUMENT + " is not here: the quotations were not compared with it");
            return;
        }
        String document = Files.readString(DOCUMENT);
        String preface = part(document, "## What it is", "## The public face");
        String description = part(document, "## Description", "Examples: Each of them");
        String common = plain(preface) + " " + plain(description);
        for (int promise = 1; promise <= PROMISES; promise++) {
            String next = promise == PROMISES ? "## Not promised" : "## Promise " + (promise + 1) + ":";
            String section = part(document, "## Promise " + promise + ":", next);
            stand(promise, common + " " + plain(section));
            for (String unit : units(section)) tested(unit, promise);
            errorCodes(promise, section);
        }
        for (String unit : units(description)) tested(unit, 0);
    }

    private static String part(String document, String from, String to) {
        int start = document.indexOf(from);
        int end = document.indexOf(to, start + 1);
        Run.that("the document's part '" + from + "'", start >= 0 && end > start);
        return start >= 0 && end > start ? document.substring(start, end) : "";
    }

    private static String plain(String text) {
        return text.replace("`", "").replaceAll("\\s+", " ").strip();
    }

    private static void stand(int promise, String text) {
        for (Sentence sentence : ALL) {
            if (sentence.promise != promise) continue;
            Run.that(sentence.title() + " stands in the document", text.contains(plain(sentence.words)));
        }
    }

    /** The sentences and clauses of a part, without its headings, the signature and what only names a parameter. */
    private static List<String> units(String part) {
        List<String> units = new ArrayList<>();
        for (String line : part.split("\n")) {
            if (line.startsWith("#") || line.startsWith("----") || line.startsWith("`")) continue;
            for (String piece : plain(line).replaceFirst("^(" + HEADINGS + ")\\. ", "").split("(?<=[.;]) ")) {
                String unit = piece.replaceFirst("^- ", "").replaceFirst("[.;]$", "");
                if (unit.split(" ").length > 3) units.add(unit);
            }
        }
        return units;
    }

    /** A unit of a promise is tested under its number, one of the description (0) under any number. */
    private static void tested(String unit, int promise) {
        for (Sentence sentence : ALL) {
            String words = plain(sentence.words);
            boolean same = words.contains(unit) || unit.contains(words.replaceFirst("[.;]$", ""));
            if (same && (promise == 0 || sentence.promise == promise)) return;
        }
        Run.that("a test of promise " + promise + ", '" + unit + "'", false);
    }

    /** Of a method with error codes it is tested that they change nothing, of one with several that they come in their order. */
    private static void errorCodes(int promise, String section) {
        int codes = 0;
        for (String code : List.of("UNKNOWN if", "OUTSIDE if", "STATE if", "FULL if")) if (section.contains(code)) codes++;
        if (codes > 0) tested(RefusalBoundaries.NOTHING, promise);
        if (codes > 1) tested(RefusalBoundaries.ORDER, promise);
    }

    /** For how many sentences there are runs. */
    static int howMany() {
        return ALL.size();
    }
}
