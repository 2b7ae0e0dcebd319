import java.io.IOException;
import java.lang.reflect.Method;
import java.net.URL;
import java.net.URLClassLoader;
import java.nio.file.Files;
import java.nio.file.Path;
import java.util.ArrayList;
import java.util.List;
import java.util.regex.Matcher;
import java.util.regex.Pattern;
import javax.tools.ToolProvider;

/** README.md's example compiles and answers what its comments say; README.md names every call and every test. */
public final class ReadmeTest {
    private static final Pattern ANSWER = Pattern.compile("int (\\w+) = .*;\\s*// (-?\\w+).*");

    private final Tally tally = new Tally();
    private final String readme;

    private ReadmeTest() throws IOException {
        readme = Files.readString(Path.of("README.md"));
    }

    public static void main(String[] args) throws Exception {
        ReadmeTest t = new ReadmeTest();
        t.exampleAnswers();
        t.namesEveryCall();
        t.namesEveryTest();
        if (!t.tally.close("readme")) {
            System.exit(1);
        }
    }

    private String example() {
        int from = readme.indexOf("```java\n");
        int to = readme.indexOf("```", from + 3);
        return from < 0 || to < 0 ? "" : readme.substring(from + 8, to);
    }

    private void exampleAnswers() throws Exception {
        List<String> calls = new ArrayList<>();
        StringBuilder due = new StringBuilder();
        StringBuilder got = new StringBuilder();
        for (String line : example().split("\n")) {
            Matcher m = ANSWER.matcher(line);
            if (m.matches()) {
                calls.add(line);
                got.append(got.length() == 0 ? "" : ", ").append(m.group(1));
                boolean isName = Character.isLetter(m.group(2).charAt(0));
                due.append(due.length() == 0 ? "" : ", ").append(isName ? "WakeOrder." : "").append(m.group(2));
            }
        }
        String source = "public final class ReadmeExample { public static int[][] run() {\n" + example()
            + "return new int[][] {{" + got + "}, {" + due + "}};\n} }\n";
        int[][] answers = compileAndRun(source);
        tally.that("the example has answers", calls.size() >= 10 && answers[0].length == calls.size());
        for (int k = 0; k < answers[0].length; k++) {
            tally.due(calls.get(k), answers[0][k], answers[1][k]);
        }
    }

    private static int[][] compileAndRun(String source) throws Exception {
        Path room = Files.createTempDirectory("readme");
        Path file = room.resolve("ReadmeExample.java");
        Path compiled = room.resolve("ReadmeExample.class");
        try {
            Files.writeString(file, source);
            ToolProvider.getSystemJavaCompiler().run(null, null, null, "-cp", System.getProperty("java.class.path"),
                "-d", room.toString(), file.toString());
            try (URLClassLoader loader = new URLClassLoader(new URL[] {room.toUri().toURL()})) {
                return (int[][]) loader.loadClass("ReadmeExample").getMethod("run").invoke(null);
            }
        } finally {
            Files.deleteIfExists(file);
            Files.deleteIfExists(compiled);
            Files.delete(room);
        }
    }

    private void namesEveryCall() {
        for (Method m : Pair.calls()) {
            tally.that("README.md tells of " + m.getName(),
                Pattern.compile("\\| [^|\n]*`" + m.getName() + "\\(.*\\)`.* \\| .+ \\|").matcher(readme).find());
        }
    }

    private void namesEveryTest() throws IOException {
        try (var files = Files.list(Path.of("src/test/java"))) {
            for (Path file : files.filter(f -> f.toString().endsWith("Test.java")).sorted().toList()) {
                String test = file.getFileName().toString().replace(".java", "");
                tally.that("README.md tells of " + test, readme.contains("`" + test + "`"));
            }
        }
    }
}
