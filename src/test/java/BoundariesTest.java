import java.io.IOException;
import java.nio.file.Files;
import java.nio.file.Path;
import java.util.List;
import java.util.Set;
import java.util.TreeSet;

/** Each boundary case that the document names, by a run of its own; the words it is about stand in the document. */
public final class BoundariesTest {
    private static final int PROMISES = 25;

    public static void main(String[] args) throws IOException {
        Expect expect = new Expect();
        String document = Boundary.flat(Files.readString(Path.of("../shared/DOC.md")));
        List<Boundary> all = Boundary.readAll();
        Set<String> titles = new TreeSet<>();
        Set<Integer> promises = new TreeSet<>();
        for (Boundary boundary : all) {
            boundary.wrongAnswers(PauseRegions.class, expect);
            expect.isTrue("the title is its own", titles.add(boundary.title()));
            expect.isTrue("it has words, a run and a break",
                !boundary.words().isEmpty() && !boundary.rows().isEmpty() && !boundary.breaks().isEmpty());
            for (String words : boundary.words()) {
                expect.isTrue("the document says: " + words, document.contains(Boundary.flat(words)));
            }
            promises.add(Integer.parseInt(boundary.title().split(" ")[0]));
        }
        expect.part("the cases");
        for (int promise = 1; promise <= PROMISES; promise++) {
            expect.isTrue("promise " + promise + " has one", promises.contains(promise));
        }
        System.out.println(all.size() + " boundary cases");
        expect.end();
    }
}
