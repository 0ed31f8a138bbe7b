import java.io.IOException;
import java.lang.reflect.Method;
import java.lang.reflect.Modifier;
import java.net.URL;
import java.net.URLClassLoader;
import java.nio.file.DirectoryStream;
import java.nio.file.Files;
import java.nio.file.Path;
import java.util.ArrayList;
import java.util.List;
import java.util.regex.Matcher;
import java.util.regex.Pattern;
import javax.tools.ToolProvider;

/** The examples of README.md answer as they say, and it names every call and every test. */
public final class ReadmeTest {
    private static final Check c = new Check();
    private static final Pattern BLOCK = Pattern.compile("(?s)```java\n(.*?)```");
    private static final Pattern ANSWERED =
            Pattern.compile("(?:int (\\w+) = )?(x\\.\\w+\\(.*\\)); *// (-?\\d+)(?::.*)?");
    private static final Pattern TEST_NAMED = Pattern.compile("`(\\w+Test)`");

    private static final List<String> calls = new ArrayList<>();
    private static final List<Long> due = new ArrayList<>();

    public static void main(String[] args) throws Exception {
        String readme = Files.readString(Path.of("README.md"));
        examples(readme);
        callsNamed(readme);
        testsNamed(readme);
        c.finish();
    }

    private static void examples(String readme) throws Exception {
        StringBuilder body = new StringBuilder();
        int blocks = 0;
        Matcher found = BLOCK.matcher(readme);
        while (found.find()) {
            body.append("{\n");
            for (String line : found.group(1).split("\n")) {
                body.append(toSource(line)).append('\n');
            }
            body.append("}\n");
            blocks++;
        }
        c.holds("five parts have an example", blocks == 5);
        long[] got = run(body.toString(), due.size());
        for (int k = 0; k < due.size(); k++) {
            c.due("README.md: " + calls.get(k), got[k], due.get(k));
        }
    }

    /** A row with an answer behind it keeps what the call really answers; the others stay as they are. */
    private static String toSource(String line) {
        Matcher answered = ANSWERED.matcher(line);
        if (!answered.matches()) {
            c.holds("README.md: a call without an answer: " + line, !line.startsWith("x."));
            return line;
        }
        int place = due.size();
        calls.add(answered.group(2));
        due.add(Long.valueOf(answered.group(3)));
        String kept = "got[" + place + "] = " + answered.group(2) + ";";
        return answered.group(1) == null ? kept : kept + " int " + answered.group(1) + " = (int) got[" + place + "];";
    }

    private static long[] run(String body, int answers) throws Exception {
        Path dir = Files.createTempDirectory("readme");
        try {
            Path file = dir.resolve("ReadmeExamples.java");
            Files.writeString(file, "public final class ReadmeExamples { public static long[] run() {\n"
                    + "long[] got = new long[" + answers + "];\n" + body + "return got;\n} }\n");
            int exit = ToolProvider.getSystemJavaCompiler().run(null, null, null, "-d", dir.toString(),
                    "-cp", System.getProperty("java.class.path"), file.toString());
            c.due("README.md: the examples compile", exit, 0);
            if (exit != 0) {
                return new long[answers];
            }
            try (URLClassLoader loader = new URLClassLoader(new URL[] {dir.toUri().toURL()})) {
                return (long[]) loader.loadClass("ReadmeExamples").getMethod("run").invoke(null);
            }
        } finally {
            remove(dir);
        }
    }

    private static void remove(Path dir) throws IOException {
        try (DirectoryStream<Path> files = Files.newDirectoryStream(dir)) {
            for (Path file : files) {
                Files.delete(file);
            }
        }
        Files.delete(dir);
    }

    private static void callsNamed(String readme) {
        for (Method method : BankStore.class.getDeclaredMethods()) {
            if (Modifier.isPublic(method.getModifiers())) {
                c.holds("README.md names " + method.getName(), readme.contains("`" + method.getName() + "("));
            }
        }
    }

    private static void testsNamed(String readme) throws IOException {
        try (DirectoryStream<Path> tests = Files.newDirectoryStream(Path.of("src/test/java"), "*.java")) {
            for (Path test : tests) {
                String name = test.getFileName().toString().replace(".java", "");
                c.holds("README.md names " + name, readme.contains("`" + name + "`"));
            }
        }
        Matcher named = TEST_NAMED.matcher(readme);
        while (named.find()) {
            c.holds("there is a " + named.group(1), Files.exists(Path.of("src/test/java", named.group(1) + ".java")));
        }
    }
}
