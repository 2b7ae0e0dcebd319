import java.io.IOException;
import java.lang.reflect.Method;
import java.nio.file.Files;
import java.nio.file.Path;
import java.util.ArrayList;
import java.util.List;
import java.util.stream.Stream;

/** The words that tests quote stand in the document; every promise and every paragraph of the terms has such a test. */
public final class DocumentTest {
    private static final int PROMISES = 29;

    private final Tally tally = new Tally();
    private final List<Says> quotes = new ArrayList<>();

    public static void main(String[] args) throws Exception {
        DocumentTest t = new DocumentTest();
        t.gather();
        String document = Files.readString(Path.of("../shared/DOC.md"));
        t.quotesStandInIt(document);
        t.eachPromiseIsQuoted(document);
        t.eachTermIsQuoted(document);
        if (!t.tally.close("document")) {
            System.exit(1);
        }
    }

    private void gather() throws IOException, ClassNotFoundException {
        List<Path> files;
        try (Stream<Path> all = Files.list(Path.of("src/test/java"))) {
            files = all.filter(f -> f.toString().endsWith("EdgesTest.java")).sorted().toList();
        }
        for (Path file : files) {
            String name = file.getFileName().toString().replace(".java", "");
            for (Method m : Edges.testsOf(Class.forName(name))) {
                quotes.add(m.getAnnotation(Says.class));
            }
        }
    }

    private void quotesStandInIt(String document) {
        for (Says quote : quotes) {
            tally.that("the document says '" + quote.words() + "'", document.contains(quote.words()));
        }
    }

    private static String promise(String document, int number) {
        int from = document.indexOf("## Promise " + number + ":");
        int to = document.indexOf("\n## ", from);
        return from < 0 ? "" : document.substring(from, to < 0 ? document.length() : to);
    }

    private void eachPromiseIsQuoted(String document) {
        for (int number = 1; number <= PROMISES; number++) {
            int n = number;
            boolean held = quotes.stream().anyMatch(q -> contains(q.of(), n)
                && promise(document, n).contains(q.words()));
            tally.that("a test quotes promise " + number, held);
        }
        tally.that("there is no promise behind " + PROMISES, promise(document, PROMISES + 1).isEmpty());
    }

    private static boolean contains(int[] numbers, int wanted) {
        for (int number : numbers) {
            if (number == wanted) {
                return true;
            }
        }
        return false;
    }

    private void eachTermIsQuoted(String document) {
        String terms = document.substring(document.indexOf("## Terms"), document.indexOf("## Promise 1:"));
        for (String line : terms.split("\n")) {
            if (line.isBlank() || line.startsWith("```") || line.startsWith("##") || line.startsWith("Ahead of the calls")) {
                continue;
            }
            tally.that("a test quotes '" + line + "'", quotes.stream().anyMatch(q -> line.contains(q.words())));
        }
        tally.that("a test quotes the 512 calls", quotes.stream().anyMatch(q -> q.words().contains("at most 512 calls")));
    }
}
