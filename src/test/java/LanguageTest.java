import java.nio.file.Files;
import java.nio.file.Path;
import java.util.regex.Matcher;
import java.util.regex.Pattern;

/** What of LANGUAGE.md can be seen in the text: words, the library, the length of methods, how many classes. */
public final class LanguageTest {
    public static void main(String[] args) throws Exception {
        Check check = new Check();
        String text = Files.readString(Path.of("src/main/java/HeatTown.java"));
        for (int i = 0; i < text.length(); i++) {
            if (text.charAt(i) > 127) {
                check.due("a sign above 127 at " + i, 1, 0);
            }
        }
        String code = text.replaceAll("(?s)/\\*.*?\\*/", "").replaceAll("//[^\n]*", "")
            .replaceAll("\"[^\"]*\"", "\"\"").replaceAll("'.'", "' '");
        String[] forbidden = {"\\bthrow\\b", "\\bthrows\\b", "\\btry\\b", "\\bcatch\\b", "\\bsynchronized\\b", "\\bassert\\b",
            "->", "::", "Exact\\b", "\\bpackage\\b", "\\bprotected\\b", "\\bdouble\\b", "\\bfloat\\b", "\\bvar\\b", "\\bstatic\\s*\\{",
            "\\bString\\.", "\\bnew String\\b", "\\bhashCode\\b", "\\btoString\\b", "\\bequals\\b", "\\bThread\\b", "\\bClass\\b"};
        for (String word : forbidden) {
            check.due(word, Pattern.compile(word).matcher(code).find(), false);
        }
        count(check, code, "\\bimport\\b", 1);
        count(check, code, "\\bimport java\\.util\\.Arrays;", 1);
        Matcher library = Pattern.compile("\\b(System|Math|Arrays|Integer|Long)\\.(\\w+)").matcher(code);
        while (library.find()) {
            String call = library.group();
            boolean known = call.matches("System\\.arraycopy|Arrays\\.fill|Math\\.(abs|min|max)");
            check.due(call, known, true);
        }
        int classes = 0;
        Matcher kinds = Pattern.compile("\\b(class|enum|record|interface) \\w+").matcher(code);
        while (kinds.find()) {
            classes++;
        }
        check.due("at most twelve classes", classes <= 12, true);
        methods(check, code);
        check.finish();
    }

    private static void count(Check check, String code, String pattern, int due) {
        int many = 0;
        Matcher m = Pattern.compile(pattern).matcher(code);
        while (m.find()) {
            many++;
        }
        check.due(pattern, many, due);
    }

    private static void methods(Check check, String code) {
        Matcher m = Pattern.compile("(?m)^( +)(?:(?:public|private|static|final) )*\\w+(?:\\[\\])* ?\\w*\\(([^)]*)\\) \\{$").matcher(code);
        int many = 0;
        while (m.find()) {
            many++;
            int end = code.indexOf("\n" + m.group(1) + "}", m.end());
            long lines = code.substring(m.start(), end).lines().count();
            check.due(m.group().trim() + " is short", lines <= 60, true);
            check.due(m.group().trim() + " has few parameters", m.group(2).split(",").length <= 7, true);
        }
        check.due("there are methods", many > 100, true);
    }
}
