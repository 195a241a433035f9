import java.lang.reflect.Field;
import java.lang.reflect.InvocationTargetException;
import java.lang.reflect.Method;
import java.lang.reflect.Modifier;
import java.util.Arrays;
import java.util.Map;
import java.util.Random;
import java.util.Set;
import java.util.TreeMap;
import java.util.TreeSet;

/** The public face is the document's and no more; no arguments make a call throw; what is refused changes nothing. */
public final class FaceTest {
    private static final Map<String, Integer> CONSTANTS =
        Map.of("BAD", -1, "STATE", -2, "FULL", -3, "NIL", -5, "NONE", -9);
    private static final String[] METHODS = {
        "makes 2", "writes 3", "takes 3", "sets 2", "refines 1", "begins 0", "steps 1", "pauses 1", "undo 0",
        "root 1", "thing 2", "region 2", "remembers 2", "dirty 1", "grey 1", "learnt 1", "chooses 1", "foretold 1",
        "would 1", "rubbish 1", "way 2", "keep 1", "back 1", "count 1"};
    private static final Set<String> CHANGING = Set.of(
        "makes", "writes", "takes", "sets", "refines", "begins", "steps", "pauses", "undo", "back");
    private static final int[] ARGUMENTS = {
        Integer.MIN_VALUE, -10, -2, -1, 0, 1, 2, 3, 5, 6, 8, 9, 10, 19, 20, 21, 24, 25, 31, 32, 33, 64, 999, 1000,
        Integer.MAX_VALUE};
    private static final Expect EXPECT = new Expect();

    public static void main(String[] args) throws ReflectiveOperationException {
        face();
        for (int run = 0; run < 60; run++) {
            anyArguments(new Random(run));
        }
        EXPECT.end();
    }

    private static void face() throws ReflectiveOperationException {
        EXPECT.part("the face");
        Class<?> c = PauseRegions.class;
        EXPECT.isTrue("public final", Modifier.isPublic(c.getModifiers()) && Modifier.isFinal(c.getModifiers()));
        EXPECT.due("constructors", c.getDeclaredConstructors().length, 1);
        EXPECT.isTrue("a public one without arguments", Modifier.isPublic(c.getConstructor().getModifiers()));
        TreeMap<String, Integer> constants = new TreeMap<>();
        for (Field f : c.getDeclaredFields()) {
            if (!Modifier.isPrivate(f.getModifiers())) {
                EXPECT.isTrue(f + " is a constant", Modifier.toString(f.getModifiers()).equals("public static final"));
                constants.put(f.getName(), f.getInt(null));
            }
        }
        EXPECT.isTrue("constants are " + constants, constants.equals(new TreeMap<>(CONSTANTS)));
        TreeSet<String> methods = new TreeSet<>();
        TreeSet<String> names = new TreeSet<>();
        for (Method m : c.getDeclaredMethods()) {
            if (!Modifier.isPrivate(m.getModifiers())) {
                methods.add(m.getName() + " " + m.getParameterCount());
                names.add(m.getName());
                EXPECT.isTrue(m + " answers an int", m.getReturnType() == int.class);
                EXPECT.isTrue(m + " is of an object", Modifier.toString(m.getModifiers()).equals("public"));
            }
        }
        EXPECT.isTrue("methods are " + methods, methods.equals(new TreeSet<>(Arrays.asList(METHODS))));
        for (Method m : c.getDeclaredMethods()) {
            boolean own = Modifier.isPrivate(m.getModifiers());
            EXPECT.isTrue(m + " has a name of its own", !own || !names.contains(m.getName()));
        }
        for (Class<?> inside : c.getDeclaredClasses()) {
            EXPECT.isTrue(inside + " is static", Modifier.isStatic(inside.getModifiers()));
            EXPECT.isTrue(inside + " is not public", !Modifier.isPublic(inside.getModifiers()));
            EXPECT.isTrue(inside + " has at most 20 fields", inside.getDeclaredFields().length <= 20);
        }
    }

    private static void anyArguments(Random random) throws ReflectiveOperationException {
        PauseRegions x = new PauseRegions();
        int[] all = state(x);
        for (int i = 0; i < 300; i++) {
            String[] name = METHODS[random.nextInt(METHODS.length)].split(" ");
            Class<?>[] types = new Class<?>[Integer.parseInt(name[1])];
            Object[] values = new Object[types.length];
            Arrays.fill(types, int.class);
            for (int k = 0; k < values.length; k++) {
                values[k] = ARGUMENTS[random.nextInt(ARGUMENTS.length)];
            }
            String call = name[0] + Arrays.toString(values);
            EXPECT.part("any arguments: " + call);
            try {
                int answer = (Integer) PauseRegions.class.getMethod(name[0], types).invoke(x, values);
                int[] now = state(x);
                boolean refused = answer == -1 || answer == -2 || answer == -3;
                if (refused || !CHANGING.contains(name[0])) {
                    EXPECT.isTrue("nothing is changed", Arrays.equals(all, now));
                }
                all = now;
            } catch (InvocationTargetException e) {
                EXPECT.isTrue("no throw of " + e.getCause(), false);
            }
        }
    }

    /** All that can be asked, but for what would be. */
    private static int[] state(PauseRegions x) {
        int[] all = new int[600];
        int n = 0;
        for (int r = 0; r < 6; r++) {
            all[n++] = x.root(r);
        }
        for (int t = 0; t < 32; t++) {
            for (int what = 0; what < 6; what++) {
                all[n++] = x.thing(t, what);
            }
            all[n++] = x.dirty(t);
            all[n++] = x.grey(t);
        }
        for (int r = 0; r < 10; r++) {
            for (int what = 0; what < 5; what++) {
                all[n++] = x.region(r, what);
            }
            for (int card = 0; card < 20; card++) {
                all[n++] = x.remembers(r, card);
            }
        }
        for (int what = 0; what < 9; what++) {
            all[n++] = x.count(what);
        }
        all[n++] = x.learnt(0);
        all[n++] = x.learnt(1);
        return all;
    }
}
