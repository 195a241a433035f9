import java.lang.reflect.InvocationTargetException;
import java.lang.reflect.Method;
import java.util.Map;

/** Runs rows such as "makes(4, 0) = 0" on one object; names of the document's constants may stand for answers. */
final class Script {
    private static final Map<String, Integer> NAMES = Map.of("BAD", -1, "STATE", -2, "FULL", -3, "NIL", -5, "NONE", -9,
        "MIN", Integer.MIN_VALUE, "MAX", Integer.MAX_VALUE);

    private final Expect expect;
    private final Class<?> type;
    private Object object;

    Script(Expect expect, String part) {
        this(expect, part, PauseRegions.class);
    }

    /** On a new object of that class, which has the face of PauseRegions. */
    Script(Expect expect, String part, Class<?> type) {
        this.expect = expect;
        this.type = type;
        expect.part(part);
        try {
            object = type.getConstructor().newInstance();
        } catch (InvocationTargetException e) {
            expect.tellWrong("the constructor threw " + e.getCause());
        } catch (ReflectiveOperationException e) {
            throw new IllegalStateException(type + " has not the face of PauseRegions", e);
        }
    }

    /** Rows are separated by semicolons or stand in several texts. */
    Script says(String... texts) {
        for (String text : texts) {
            for (String row : text.split(";")) {
                if (object != null && !row.isBlank()) {
                    runRow(row.trim());
                }
            }
        }
        return this;
    }

    private void runRow(String row) {
        int open = row.indexOf('(');
        int shut = row.indexOf(')');
        int equal = row.indexOf('=');
        if (open < 0 || shut < open || equal < shut) {
            throw new IllegalArgumentException("not a row: " + row);
        }
        int[] values = numbers(row.substring(open + 1, shut).trim());
        String call = row.substring(0, shut + 1);
        try {
            expect.due(call, call(row.substring(0, open).trim(), values), number(row.substring(equal + 1).trim()));
        } catch (InvocationTargetException e) {
            expect.tellWrong(call + " threw " + e.getCause());
        }
    }

    private int call(String name, int[] values) throws InvocationTargetException {
        Class<?>[] types = new Class<?>[values.length];
        Object[] boxed = new Object[values.length];
        for (int i = 0; i < values.length; i++) {
            types[i] = int.class;
            boxed[i] = values[i];
        }
        try {
            Method method = type.getMethod(name, types);
            return (Integer) method.invoke(object, boxed);
        } catch (NoSuchMethodException | IllegalAccessException e) {
            throw new IllegalArgumentException("no such call: " + name + " of " + values.length, e);
        }
    }

    private static int[] numbers(String inside) {
        if (inside.isEmpty()) {
            return new int[0];
        }
        String[] words = inside.split(",");
        int[] values = new int[words.length];
        for (int i = 0; i < words.length; i++) {
            values[i] = number(words[i].trim());
        }
        return values;
    }

    private static int number(String word) {
        return NAMES.containsKey(word) ? NAMES.get(word) : Integer.parseInt(word);
    }
}
