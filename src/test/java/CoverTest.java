import java.nio.file.Files;
import java.nio.file.Path;
import java.util.List;
import java.util.TreeSet;
import java.util.regex.Matcher;
import java.util.regex.Pattern;
import java.util.stream.Collectors;
import java.util.stream.Stream;

/** Every promise of the document, and every part of its Terms, is named by a test of its edges. */
public final class CoverTest {
    public static void main(String[] args) throws Exception {
        Check check = new Check();
        String tests = readEdges();
        String document = Files.readString(Path.of("../shared/DOC.md"));
        TreeSet<Integer> promises = new TreeSet<>();
        Matcher heading = Pattern.compile("(?m)^## Promise (\\d+):").matcher(document);
        while (heading.find()) {
            promises.add(Integer.valueOf(heading.group(1)));
        }
        check.due("promises of the document", promises.size(), 37);
        for (int promise : promises) {
            check.due("a test names promise " + promise, tests.contains("CHECK.promise(" + promise + ", \""), true);
        }
        for (String part : List.of("I", "II", "III", "IV", "V", "VI")) {
            check.due("the document has part " + part, document.contains("\n" + part + ". "), true);
            check.due("a test names part " + part, tests.contains("CHECK.terms(\"" + part + "\", \""), true);
        }
        check.finish();
    }

    private static String readEdges() throws Exception {
        try (Stream<Path> files = Files.list(Path.of("src/test/java"))) {
            StringBuilder all = new StringBuilder();
            for (Path file : files.filter(f -> f.getFileName().toString().matches("Edges\\w+Test\\.java")).collect(Collectors.toList())) {
                all.append(Files.readString(file));
            }
            return all.toString();
        }
    }
}
