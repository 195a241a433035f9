import java.lang.reflect.Method;
import java.util.Map;

/** Runs rows such as "makes(4, 0) = 0" on one object; names of the document's constants may stand for answers. */
final class Script {
    private static final Map<String, Integer> NAMES = Map.of("BAD", -1, "STATE", -2, "FULL", -3, "NIL", -5, "NONE", -9);

    private final Expect expect;
    private final PauseRegions object = new PauseRegions();

    Script(Expect expect, String part) {
        this.expect = expect;
        expect.part(part);
    }

    /** Rows are separated by semicolons or stand in several texts. */
    Script says(String... texts) {
        for (String text : texts) {
            for (String row : text.split(";")) {
                if (!row.isBlank()) {
                    runRow(row.trim());
                }
            }
        }
        return this;
    }

    private void runRow(String row) {
        int open = row.indexOf('(');
        int shut = row.indexOf(')');
        int equal = row.indexOf('=');
        String inside = row.substring(open + 1, shut).trim();
        String[] words = inside.isEmpty() ? new String[0] : inside.split(",");
        Class<?>[] types = new Class<?>[words.length];
        Object[] values = new Object[words.length];
        for (int i = 0; i < words.length; i++) {
            types[i] = int.class;
            values[i] = number(words[i].trim());
        }
        try {
            Method method = PauseRegions.class.getMethod(row.substring(0, open).trim(), types);
            int got = (Integer) method.invoke(object, values);
            expect.due(row.substring(0, shut + 1), got, number(row.substring(equal + 1).trim()));
        } catch (ReflectiveOperationException e) {
            System.out.println(row + ": " + e + ", " + e.getCause());
            expect.isTrue(row + " was run", false);
        }
    }

    private static int number(String word) {
        if (word.equals("MIN")) {
            return Integer.MIN_VALUE;
        }
        if (word.equals("MAX")) {
            return Integer.MAX_VALUE;
        }
        return NAMES.containsKey(word) ? NAMES.get(word) : Integer.parseInt(word);
    }
}
