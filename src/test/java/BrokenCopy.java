import java.io.ByteArrayOutputStream;
import java.io.OutputStream;
import java.net.URI;
import java.util.HashMap;
import java.util.List;
import java.util.Map;
import javax.tools.FileObject;
import javax.tools.ForwardingJavaFileManager;
import javax.tools.JavaCompiler;
import javax.tools.JavaFileManager;
import javax.tools.JavaFileObject;
import javax.tools.SimpleJavaFileObject;
import javax.tools.StandardJavaFileManager;
import javax.tools.ToolProvider;

/** A changed copy of the class, compiled and loaded beside the real one, in memory alone. */
final class BrokenCopy extends ClassLoader {
    private final Map<String, ByteArrayOutputStream> compiled = new HashMap<>();

    private BrokenCopy() {
        super(BrokenCopy.class.getClassLoader());
    }

    /** The text without remarks and line ends, so that a change may reach over several lines. */
    static String plain(String source) {
        return Boundary.flat(source.replaceAll("//.*", "").replaceAll("(?s)/\\*.*?\\*/", ""));
    }

    /** The class, or null if it does not compile. */
    static Class<?> of(String source) {
        BrokenCopy copy = new BrokenCopy();
        try {
            return copy.compile(source) ? copy.loadClass("PauseRegions") : null;
        } catch (ClassNotFoundException e) {
            throw new IllegalStateException("the copy has no class PauseRegions", e);
        }
    }

    private boolean compile(String source) {
        JavaCompiler compiler = ToolProvider.getSystemJavaCompiler();
        StandardJavaFileManager files = compiler.getStandardFileManager(d -> { }, null, null);
        return compiler.getTask(null, new InMemory(files, compiled), d -> { }, List.of("-proc:none"), null,
            List.of(new Source(source))).call();
    }

    /** Its own classes come first: the real ones bear the same names. */
    @Override
    protected Class<?> loadClass(String name, boolean resolve) throws ClassNotFoundException {
        Class<?> known = findLoadedClass(name);
        if (known != null) {
            return known;
        }
        return compiled.containsKey(name) ? findClass(name) : super.loadClass(name, resolve);
    }

    @Override
    protected Class<?> findClass(String name) throws ClassNotFoundException {
        ByteArrayOutputStream bytes = compiled.get(name);
        if (bytes == null) {
            throw new ClassNotFoundException(name);
        }
        return defineClass(name, bytes.toByteArray(), 0, bytes.size());
    }

    /** The text of the class, not from a file. */
    static final class Source extends SimpleJavaFileObject {
        private final String text;

        Source(String text) {
            super(URI.create("string:///PauseRegions.java"), Kind.SOURCE);
            this.text = text;
        }

        @Override
        public CharSequence getCharContent(boolean ignoreEncodingErrors) {
            return text;
        }
    }

    private static final class InMemory extends ForwardingJavaFileManager<JavaFileManager> {
        private final Map<String, ByteArrayOutputStream> compiled;

        InMemory(JavaFileManager files, Map<String, ByteArrayOutputStream> compiled) {
            super(files);
            this.compiled = compiled;
        }

        @Override
        public JavaFileObject getJavaFileForOutput(
                Location location, String name, JavaFileObject.Kind kind, FileObject sibling) {
            ByteArrayOutputStream bytes = new ByteArrayOutputStream();
            compiled.put(name, bytes);
            return new SimpleJavaFileObject(URI.create("bytes:///" + name), kind) {
                @Override
                public OutputStream openOutputStream() {
                    return bytes;
                }
            };
        }
    }
}
