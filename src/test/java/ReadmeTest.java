import java.lang.reflect.Method;
import java.lang.reflect.Modifier;
import java.net.URL;
import java.net.URLClassLoader;
import java.nio.file.Files;
import java.nio.file.Path;
import java.util.Set;
import java.util.TreeSet;
import java.util.regex.Matcher;
import java.util.regex.Pattern;
import javax.tools.ToolProvider;

/** README.md tells what is so: its example answers what it says, and it names every call and every refusal. */
public final class ReadmeTest {
    private static final Pattern ANSWER =
        Pattern.compile("^(?:\\w+ (\\w+) = )?(town\\.\\w+\\(.*?\\));\\s*// (-?\\d+|true|false)(?::.*)?$");

    public static void main(String[] args) throws Exception {
        Check check = new Check();
        String page = Files.readString(Path.of("README.md"));
        Matcher block = Pattern.compile("(?s)```java\n(.*?)```").matcher(page);
        check.due("there is an example", block.find(), true);
        runExample(check, block.group(1));
        String behind = page.substring(page.indexOf("## The calls"));
        for (Method method : HeatTown.class.getDeclaredMethods()) {
            if (Modifier.isPublic(method.getModifiers())) {
                check.due("README.md names " + method.getName(), behind.contains("`" + method.getName() + "("), true);
            }
        }
        nameRefusals(check, behind);
        check.finish();
    }

    /** Each refusal that a promise begins a sentence with has a row of the table. */
    private static void nameRefusals(Check check, String page) throws Exception {
        String promises = Files.readString(Path.of("../shared/DOC.md"));
        promises = promises.substring(promises.indexOf("## Promise 1:"));
        Set<String> refusals = new TreeSet<>();
        Matcher number = Pattern.compile("(?<=[ (])-\\d+(?=[:,. ])(?! \\.\\.)").matcher(promises);
        while (number.find()) {
            refusals.add(number.group());
        }
        check.due("refusals of the document", refusals.size(), 9);
        refusals.add("-1");
        for (String refusal : refusals) {
            check.due("README.md tells " + refusal, page.contains("\n| " + refusal + " "), true);
        }
    }

    private static void runExample(Check check, String example) throws Exception {
        StringBuilder source = new StringBuilder("public final class Example { public static long[] run() {\n");
        StringBuilder answers = new StringBuilder();
        int many = 0;
        for (String line : example.split("\n")) {
            Matcher m = ANSWER.matcher(line);
            if (!m.matches()) {
                check.due(line + " tells no answer", line.contains("new HeatTown()"), true);
                source.append(line).append('\n');
                continue;
            }
            String asked = m.group(1) == null ? m.group(2) : m.group(1);
            if (m.group(1) != null) {
                source.append(line).append('\n');
            }
            source.append("boolean as").append(many).append(" = ").append(asked).append(" == ").append(m.group(3)).append(";\n");
            answers.append(many == 0 ? "" : ", ").append("as").append(many).append(" ? 1 : 0");
            many++;
        }
        source.append("return new long[] {").append(answers).append("}; } }\n");
        check.due("the example has answers", many >= 10, true);
        long[] told = run(source.toString());
        for (int i = 0; i < told.length; i++) {
            check.due("answer " + i + " of the example is as it says", told[i], 1);
        }
    }

    private static long[] run(String source) throws Exception {
        Path place = Files.createTempDirectory("readme");
        Path file = place.resolve("Example.java");
        Files.writeString(file, source);
        // What is named last goes first, so the directory is empty when its turn comes.
        place.toFile().deleteOnExit();
        file.toFile().deleteOnExit();
        place.resolve("Example.class").toFile().deleteOnExit();
        int code = ToolProvider.getSystemJavaCompiler().run(null, null, null,
            "-cp", System.getProperty("java.class.path"), "-d", place.toString(), file.toString());
        if (code != 0) {
            return new long[] {0};
        }
        try (URLClassLoader loader = new URLClassLoader(new URL[] {place.toUri().toURL()})) {
            return (long[]) loader.loadClass("Example").getMethod("run").invoke(null);
        }
    }
}
