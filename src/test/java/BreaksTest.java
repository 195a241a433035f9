import java.io.IOException;
import java.nio.file.Files;
import java.nio.file.Path;
import java.util.List;

/** Each boundary case fails on the copies of the class that its breaks make: so it does hold the words it is about. */
public final class BreaksTest {
    /** What became of a broken copy: as due, if its case failed on it. */
    private record Outcome(String copy, String found) { }

    private static final String AS_DUE = "the case fails";

    public static void main(String[] args) throws IOException {
        Expect expect = new Expect();
        String source = BrokenCopy.plain(Files.readString(Path.of("src/main/java/PauseRegions.java")));
        List<Outcome> outcomes = Boundary.readAll().parallelStream()
            .flatMap(boundary -> boundary.breaks().stream().map(change -> tryBreak(boundary, change, source)))
            .toList();
        for (Outcome outcome : outcomes) {
            expect.part(outcome.copy);
            expect.isTrue(outcome.found, outcome.found.equals(AS_DUE));
        }
        expect.end();
    }

    private static Outcome tryBreak(Boundary boundary, String[] change, String source) {
        String copy = boundary.title() + ": " + change[0] + " => " + change[1];
        int times = timesIn(source, change[0]);
        if (times != 1) {
            return new Outcome(copy, "the class has that text " + times + " times");
        }
        Class<?> broken = BrokenCopy.of(source.replace(change[0], change[1]));
        if (broken == null) {
            return new Outcome(copy, "the copy does not compile");
        }
        boolean fails = boundary.wrongAnswers(broken, Expect.silent()) > 0;
        return new Outcome(copy, fails ? AS_DUE : "the case does not fail");
    }

    private static int timesIn(String text, String part) {
        int times = 0;
        for (int at = text.indexOf(part); at >= 0; at = text.indexOf(part, at + 1)) {
            times++;
        }
        return times;
    }
}
