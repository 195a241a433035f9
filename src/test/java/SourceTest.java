import java.io.IOException;
import java.nio.file.Files;
import java.nio.file.Path;
import java.util.List;
import java.util.regex.Matcher;
import java.util.regex.Pattern;

/** Those rules of ../shared/LANGUAGE.md that can be seen in the text of the class; it is run from the project's folder. */
public final class SourceTest {
    private static final Expect EXPECT = new Expect();
    /** Words that the class can do without, with the number of the rule that bounds them. */
    private static final String[] WITHOUT = {
        "\\bpackage\\b", "->", "::", "\\bcatch\\b", "\\bthrow\\b", "\\bfinally\\b", "\\bsynchronized\\b", "\\bassert\\b",
        "\\bwhile\\b", "\\bdo\\b", "Exact\\b", "\\bSystem\\.(?!arraycopy)", "\\bMath\\.(?!min|max)", "\\bdouble\\b",
        "static final float", "static final boolean\\[", "\\bprotected\\b", "\\bRandom\\b", "\\bThread\\b", "\\bvar\\b",
        "\\bhashCode\\b", "\\bequals\\b", "\\btoString\\b"};

    public static void main(String[] args) throws IOException {
        List<String> lines = Files.readAllLines(Path.of("src/main/java/PauseRegions.java"));
        EXPECT.part("the rules");
        int classes = 0;
        int start = -1;
        for (int i = 0; i < lines.size(); i++) {
            String code = withoutRemarks(lines.get(i));
            for (String word : WITHOUT) {
                EXPECT.isTrue("line " + (i + 1) + " is without " + word, !Pattern.compile(word).matcher(code).find());
            }
            EXPECT.isTrue("line " + (i + 1) + " is plain", code.chars().allMatch(c -> c >= 32 && c < 127));
            if (code.startsWith("import ")) {
                EXPECT.isTrue(code, code.equals("import java.util.Arrays;"));
            }
            classes += Pattern.compile("\\bclass\\b").matcher(code).find() ? 1 : 0;
            boolean opens = Pattern.compile("^ {4,8}[\\w\\[\\] ]+\\(.*\\) \\{$").matcher(code).find();
            if (opens) {
                start = i;
                EXPECT.isTrue(code + " has at most seven parameters", parameters(code) <= 7);
            }
            if (start >= 0 && code.equals(indent(lines.get(start)) + "}")) {
                EXPECT.isTrue(lines.get(start).trim() + " has at most 60 lines", i - start < 60);
                start = -1;
            }
        }
        EXPECT.isTrue("at most twelve classes", classes <= 12);
        EXPECT.end();
    }

    private static String withoutRemarks(String line) {
        String trimmed = line.trim();
        if (trimmed.startsWith("/**") || trimmed.startsWith("*")) {
            return "";
        }
        int at = line.indexOf("//");
        return at < 0 ? line : line.substring(0, at);
    }

    private static int parameters(String head) {
        Matcher inside = Pattern.compile("\\((.*)\\) \\{$").matcher(head);
        return inside.find() && !inside.group(1).isEmpty() ? inside.group(1).split(",").length : 0;
    }

    private static String indent(String line) {
        return line.substring(0, line.length() - line.stripLeading().length());
    }
}
