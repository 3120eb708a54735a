import java.io.IOException;
import java.nio.charset.StandardCharsets;
import java.nio.file.Files;
import java.nio.file.Path;
import java.util.List;
import java.util.Set;
import java.util.TreeSet;
import java.util.regex.Matcher;
import java.util.regex.Pattern;

/** What can be seen of LANGUAGE.md's rules in the source itself. */
public final class LanguageTest {
    private static final Path SOURCE = Path.of("src/main/java/PointingNotes.java");

    public static void main(String[] args) throws IOException {
        byte[] bytes = Files.readAllBytes(SOURCE);
        boolean ascii = true;
        for (byte sign : bytes) ascii &= sign > 0;
        Run.that("all signs are 1 to 127", ascii);
        String source = withoutComments(new String(bytes, StandardCharsets.US_ASCII));
        words(source);
        library(source);
        methods(source);
        newObjects(source);
        Run.end("LanguageTest");
    }

    private static String withoutComments(String source) {
        return source.replaceAll("(?s)/\\*.*?\\*/", "").replaceAll("//[^\n]*", "");
    }

    private static void words(String source) {
        for (String word : List.of("throw", "throws", "try", "catch", "finally", "synchronized", "assert", "package", "protected", "native",
            "volatile", "transient", "interface", "var", "yield", "float", "double", "Object", "hashCode", "String", "instanceof", "null")) {
            Run.that("the word " + word + " is not there", !Pattern.compile("\\b" + word + "\\b").matcher(source).find());
        }
        for (String signs : List.of("->", "::", "@", "while (true)", "for (;;)", "static {", "\"")) {
            Run.that(signs + " is not there", !source.replace("'@'", "").contains(signs));
        }
        Run.that("one public class", source.split("\\bpublic final class\\b").length == 2);
        Run.that("classes inside are private, static and final", source.split("\\bclass\\b").length - 2 == source.split("private static final class").length - 1);
    }

    private static void library(String source) {
        Set<String> imports = found(source, "import ([a-zA-Z.*]+);");
        Run.that("the imports are allowed", Set.of("java.util.Arrays", "java.util.ArrayList", "java.util.List").containsAll(imports));
        Set<String> calls = found(source, "\\b((?:Integer|Long|Math|System|Arrays|Character|Boolean|String)\\.[a-zA-Z]+)");
        Run.that("the library's functions are allowed: " + calls,
            Set.of("Integer.bitCount", "Math.min", "Math.max", "Math.abs", "System.arraycopy", "Arrays.fill").containsAll(calls));
    }

    private static Set<String> found(String source, String pattern) {
        Set<String> all = new TreeSet<>();
        Matcher matcher = Pattern.compile(pattern).matcher(source);
        while (matcher.find()) all.add(matcher.group(1));
        return all;
    }

    /** Rule 11: the length of methods and the number of their parameters. */
    private static void methods(String source) {
        Matcher matcher = Pattern.compile("(?m)^( +)(?:public |private |static )*(?:int|long|boolean|void) (\\w+)\\(([^)]*)\\) \\{").matcher(source);
        int methods = 0;
        while (matcher.find()) {
            methods++;
            int end = source.indexOf("\n" + matcher.group(1) + "}", matcher.end());
            int lines = source.substring(matcher.start(), end).split("\n").length + 1;
            Run.that(matcher.group(2) + " is short", lines <= 60);
            Run.that(matcher.group(2) + " takes few parameters", matcher.group(3).split(",").length <= 7);
        }
        Run.that("methods were found", methods > 60);
    }

    /** No method makes an object: only constructors and the fields' own lines do. */
    private static void newObjects(String source) {
        for (String line : source.split("\n")) {
            if (!line.contains(" new ")) continue;
            boolean field = line.matches(" +private final [A-Za-z\\[\\]]+ \\w+ = new .*;");
            boolean row = line.matches(" +(filled|notes|sizes|cites) = new .*;");
            Run.that("made by a constructor: " + line.strip(), field || row);
        }
    }
}
