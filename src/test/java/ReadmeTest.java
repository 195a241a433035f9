import java.io.IOException;
import java.lang.reflect.Method;
import java.lang.reflect.Modifier;
import java.nio.file.Files;
import java.nio.file.Path;
import java.util.ArrayList;
import java.util.List;
import java.util.regex.Matcher;
import java.util.regex.Pattern;

/** README.md's example answers what it says there, and the page names every call of the class and every constant. */
public final class ReadmeTest {
    private static final Pattern EXAMPLE = Pattern.compile("(?s)```java\n(.*?)```");
    private static final Pattern ROW = Pattern.compile("x\\.(\\w+\\([^)]*\\)); +// (-?\\w+): .*");

    public static void main(String[] args) throws IOException {
        Expect expect = new Expect();
        String page = Files.readString(Path.of("README.md"));
        List<String> rows = exampleRows(page);
        expect.part("README.md");
        expect.isTrue("the example has calls", rows.size() > 1);
        new Script(expect, "README.md's example").says(rows.toArray(new String[0]));
        expect.part("README.md");
        for (Method method : PauseRegions.class.getDeclaredMethods()) {
            boolean told = page.contains("`" + method.getName() + "(");
            expect.isTrue("it tells of " + method.getName(), told || !Modifier.isPublic(method.getModifiers()));
        }
        for (String constant : List.of("BAD", "STATE", "FULL", "NIL", "NONE")) {
            expect.isTrue("it tells of " + constant, page.contains("`" + constant + "`"));
        }
        expect.end();
    }

    private static List<String> exampleRows(String page) {
        Matcher example = EXAMPLE.matcher(page);
        List<String> rows = new ArrayList<>();
        if (!example.find()) {
            return rows;
        }
        for (String line : example.group(1).split("\n")) {
            Matcher row = ROW.matcher(line);
            if (row.matches()) {
                rows.add(row.group(1) + " = " + row.group(2));
            } else if (!line.equals("PauseRegions x = new PauseRegions();")) {
                throw new IllegalStateException("not a row of the example: " + line);
            }
        }
        return rows;
    }
}
