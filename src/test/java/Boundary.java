import java.io.IOException;
import java.nio.file.Files;
import java.nio.file.Path;
import java.util.ArrayList;
import java.util.List;
import java.util.stream.Stream;

/**
 * A boundary case that the document names: its words, a run of calls on a new object with the answers that are due,
 * and changes of the class, each of which breaks those words and so must make the run fail.
 * src/test/boundaries has them as text, which README.md describes.
 */
record Boundary(String title, List<String> words, List<String> rows, List<String[]> breaks) {
    private static final Path FOLDER = Path.of("src/test/boundaries");

    static List<Boundary> readAll() throws IOException {
        List<Path> files = new ArrayList<>();
        try (Stream<Path> found = Files.list(FOLDER)) {
            found.sorted().forEach(files::add);
        }
        List<Boundary> all = new ArrayList<>();
        for (Path file : files) {
            for (String line : Files.readAllLines(file)) {
                readLine(all, line.trim());
            }
        }
        return all;
    }

    private static void readLine(List<Boundary> all, String line) {
        if (line.startsWith("== ")) {
            all.add(new Boundary(line.substring(3), new ArrayList<>(), new ArrayList<>(), new ArrayList<>()));
        } else if (line.startsWith("doc: ")) {
            latest(all, line).words.add(line.substring(5));
        } else if (line.startsWith("break: ")) {
            latest(all, line).breaks.add(readBreak(line.substring(7)));
        } else if (!line.isEmpty() && !line.startsWith("#")) {
            latest(all, line).rows.add(line);
        }
    }

    private static Boundary latest(List<Boundary> all, String line) {
        if (all.isEmpty()) {
            throw new IllegalStateException("ahead of the first title: " + line);
        }
        return all.get(all.size() - 1);
    }

    private static String[] readBreak(String text) {
        int arrow = text.indexOf("=>");
        if (arrow < 0) {
            throw new IllegalStateException("a break without an arrow: " + text);
        }
        return new String[] {text.substring(0, arrow).trim(), text.substring(arrow + 2).trim()};
    }

    /** How many answers of a new object of that class are not as due. */
    int wrongAnswers(Class<?> type, Expect expect) {
        int before = expect.wrong();
        new Script(expect, title, type).says(rows.toArray(new String[0]));
        return expect.wrong() - before;
    }

    /** Texts are compared with all white space as one blank each. */
    static String flat(String text) {
        return text.replaceAll("\\s+", " ");
    }
}
