import java.io.IOException;
import java.nio.file.Files;
import java.nio.file.Path;
import java.util.List;

/**
 * The class keeps to ../shared/LANGUAGE.md, as far as Rules can see it, and Rules does see it: each change below is
 * outside the rule with that number. It is run from the project's folder.
 */
public final class SourceTest {
    private static final Expect EXPECT = new Expect();
    private static final String[][] CHANGES = {
        {"1", "public final class PauseRegions {", "public class PauseRegions {"},
        {"1", "private static final class Row {", "private final class Row {"},
        {"2", "reached = 0;", "reached = 0; Runnable later = () -> { };"},
        {"2", "private static final class Reach {", "private static final class Reach extends Object {"},
        {"3", "int reached;", "int reached; Integer boxed;"},
        {"3", "final Heap[] past = new Heap[UNDO_MOST];", "final Heap[] past = new Heap[UNDO_MOST]; Heap[][] more;"},
        {"3", "float longer = ", "double longest = 0.0; float longer = "},
        {"4", "void enter(int t) {", "final boolean[] seen = new boolean[THINGS]; void f() { Arrays.fill(seen, false); } void enter(int t) {"},
        {"4", "System.arraycopy(other.items, 0, items, 0, THINGS);", "System.arraycopy(new Heap[1], 0, new Heap[1], 0, 1);"},
        {"4", "Math.min(known + 1, UNDO_MOST)", "Math.addExact(known, 1)"},
        {"4", "Math.min(known + 1, UNDO_MOST)", "(int) Math.sqrt(known)"},
        {"4", "import java.util.Arrays;", "import java.util.Arrays; import java.util.Random;"},
        {"4", "known = 0;", "known = 0; System.gc();"},
        {"5", "private static final int WHITE = 0", "private static int dark; private static final int WHITE = 0"},
        {"5", "private static final int WHITE = 0", "static { } private static final int WHITE = 0"},
        {"6", "known = 0;", "known = 0; throw new IllegalStateException();"},
        {"6", "known = 0;", "try { known = 0; } catch (RuntimeException e) { known = 1; }"},
        {"7", "next = (next + 1) % UNDO_MOST;", "next = (next + 1) % known;"},
        {"7", "if (foundCells > 0) {", "if (foundCells >= 0) {"},
        {"7", "if (choice.youngCells > 0) {", "if (foundCells > 0) {"},
        {"7", "final int[] far = new int[THINGS];", "int far0; final int[] far = new int[far0];"},
        {"8", "int thingsIn(int r) {", "int thingsIn(int r) { if (r < 0) { return thingsIn(0); }"},
        {"8", "boolean isThere(int t) {", "boolean isThere(int t) { if (t < 0) { return isIn(0, 0); }"},
        {"9", "int sum = 0; for (int t = 0; t < THINGS; t++) { if (isThere(t)) {", "int sum = 0; while (true) { if (isThere(sum)) {"},
        {"9", "for (int i = 0; i < k && i < THINGS; i++) {", "for (int i = 0; i < k && i < THINGS; i++) { i = 0;"},
        {"9", "for (int i = 0; i < k && i < THINGS; i++) {", "for (int i = 0; i < k && i < THINGS; ) {"},
        {"9", "for (int i = 0; i < k && i < THINGS; i++) {", "for (int i = 0; t != k; i++) {"},
        {"9", "for (int i = 0; i < THINGS && i < waiting.length; i++) {", "for (int i = 0; i < waiting.length; i++) {"},
        {"11", "void forget() {", "void forget(int a, int b, int c, int d, int e, int f, int g, int h) {"},
        {"11", "private static int cardOf(int region, int cell) {", "private static int a(int x) { return b(x); } "
            + "private static int b(int x) { return x; } private static int cardOf(int region, int cell) { a(cell);"},
        {"12", "reached = 0;", "reached = 0; Row other = new Row();"},
        {"12", "reached = 0;", "reached = 0; int[] other = new int[1];"},
    };

    public static void main(String[] args) throws IOException {
        String source = Files.readString(Path.of("src/main/java/PauseRegions.java"));
        EXPECT.part("the class");
        List<String> faults = Rules.faultsOf(source);
        faults.forEach(EXPECT::tellWrong);
        EXPECT.due("faults", faults.size(), 0);
        String plain = BrokenCopy.plain(source);
        for (String[] change : CHANGES) {
            EXPECT.part("a copy with " + change[2]);
            EXPECT.isTrue("the class has: " + change[1], plain.contains(change[1]));
            List<String> found = Rules.faultsOf(plain.replace(change[1], change[2]));
            EXPECT.isTrue("a fault by rule " + change[0] + " in " + found,
                found.stream().anyMatch(fault -> fault.startsWith("rule " + change[0] + ":")));
        }
        EXPECT.end();
    }
}
