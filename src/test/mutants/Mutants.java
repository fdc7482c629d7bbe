import java.io.ByteArrayOutputStream;
import java.io.IOException;
import java.io.OutputStream;
import java.io.PrintStream;
import java.io.Writer;
import java.lang.reflect.Method;
import java.net.URI;
import java.nio.file.Files;
import java.nio.file.Path;
import java.util.List;
import java.util.Map;
import java.util.Set;
import java.util.TreeMap;
import java.util.TreeSet;
import javax.tools.FileObject;
import javax.tools.ForwardingJavaFileManager;
import javax.tools.JavaCompiler;
import javax.tools.JavaFileManager;
import javax.tools.JavaFileObject;
import javax.tools.SimpleJavaFileObject;
import javax.tools.StandardJavaFileManager;
import javax.tools.ToolProvider;

/**
 * Whether the test of each boundary fails if its sentence is broken: mutants.txt tells for each sentence how the
 * program may be changed ("- what stands there", "-2 .." where it stands for the second time; "+ what stands there
 * then") so that it breaks that sentence; the program is compiled so, and the sentence's own test must fail. Run by
 * .ci/mutants, not by .ci/run, for it is bound to the words of VotedWater.java.
 */
public final class Mutants {
    private static final Path SOURCE = Path.of("src/main/java/VotedWater.java");
    private static final Path LIST = Path.of("src/test/mutants/mutants.txt");
    private static final Path TESTS = Path.of("build/test");
    private static final JavaCompiler COMPILER = ToolProvider.getSystemJavaCompiler();

    private final String source;
    private final Set<String> told = new TreeSet<>();
    private int made;
    private int wrong;

    private Mutants(String source) {
        this.source = source;
    }

    public static void main(String[] args) throws IOException {
        Mutants mutants = new Mutants(Files.readString(SOURCE));
        mutants.all(Files.readAllLines(LIST));
        System.out.println(mutants.made + " mutants of " + mutants.told.size() + " sentences, " + mutants.wrong
            + " complaints");
        if (mutants.wrong > 0) {
            System.exit(1);
        }
    }

    private void complain(String what) {
        wrong++;
        System.out.println(what);
    }

    private void all(List<String> lines) throws IOException {
        Results whole = testsOf(source);
        if (whole == null || !whole.broken.isEmpty()) {
            complain("tests fail already: " + (whole == null ? "no class" : whole.broken));
            return;
        }
        String sentence = "";
        String old = "";
        int which = 0;
        for (String line : lines) {
            if (line.startsWith("@ ")) {
                sentence = line.substring(2);
                told.add(sentence);
            } else if (line.matches("-\\d* .*")) {
                old = line.substring(line.indexOf(' ') + 1);
                which = line.charAt(1) == ' ' ? 0 : Integer.parseInt(line.substring(1, line.indexOf(' ')));
            } else if (line.startsWith("+")) {
                mutate(sentence, place(old, which), old, line.substring(2));
            } else if (!line.isEmpty() && !line.startsWith("#")) {
                complain("what is this line? " + line);
            }
        }
        for (Object each : whole.sentences) {
            if (!told.contains(each)) {
                complain("no mutant of: " + each);
            }
        }
        for (String each : told) {
            if (!whole.sentences.contains(each)) {
                complain("no test of: " + each);
            }
        }
    }

    /** Where that stands in the source, for the which-th time, or for the only one (0); -1: it does not. */
    private int place(String old, int which) {
        int at = source.indexOf(old);
        for (int i = 1; i < which && at >= 0; i++) {
            at = source.indexOf(old, at + 1);
        }
        return which == 0 && source.indexOf(old, at + 1) >= 0 ? -1 : at;
    }

    private void mutate(String sentence, int at, String old, String fresh) throws IOException {
        if (at < 0) {
            complain("does not stand there, or more than once: " + old);
            return;
        }
        made++;
        Results results = testsOf(source.substring(0, at) + fresh + source.substring(at + old.length()));
        if (results == null) {
            complain("does not compile: " + fresh);
        } else if (!results.broken.contains(sentence)) {
            complain("the test of \"" + sentence + "\" does not see \"" + fresh + "\", but " + results.broken.size()
                + " others do");
        }
    }

    private static final class Results {
        Set<?> sentences;
        Set<?> broken;
    }

    /** What the tests of boundaries say of such a program; null, if it does not compile. */
    private static Results testsOf(String program) throws IOException {
        Map<String, byte[]> classes = compiled(program);
        if (classes == null) {
            return null;
        }
        PrintStream out = System.out;
        System.setOut(new PrintStream(OutputStream.nullOutputStream()));
        try {
            Loader loader = new Loader(classes);
            call(loader, "TermsBoundsTest", "tests");
            call(loader, "PromisesBoundsTest", "tests");
            Results results = new Results();
            results.sentences = (Set<?>) call(loader, "Bound", "sentences");
            results.broken = (Set<?>) call(loader, "Bound", "broken");
            return results;
        } catch (ReflectiveOperationException e) {
            throw new IOException(e);
        } finally {
            System.setOut(out);
        }
    }

    private static Object call(Loader loader, String type, String name) throws ReflectiveOperationException {
        Method method = loader.loadClass(type).getDeclaredMethod(name);
        method.setAccessible(true);
        return method.invoke(null);
    }

    private static Map<String, byte[]> compiled(String program) throws IOException {
        Map<String, ByteArrayOutputStream> written = new TreeMap<>();
        JavaFileObject text = new SimpleJavaFileObject(URI.create("string:///VotedWater.java"),
            JavaFileObject.Kind.SOURCE) {
            @Override public CharSequence getCharContent(boolean ignore) {
                return program;
            }
        };
        try (StandardJavaFileManager standard = COMPILER.getStandardFileManager(null, null, null)) {
            JavaFileManager files = new ForwardingJavaFileManager<>(standard) {
                @Override public JavaFileObject getJavaFileForOutput(Location where, String name,
                    JavaFileObject.Kind kind, FileObject sibling) {
                    return new SimpleJavaFileObject(URI.create("mem:///" + name.replace('$', '_')), kind) {
                        @Override public OutputStream openOutputStream() {
                            ByteArrayOutputStream bytes = new ByteArrayOutputStream();
                            written.put(name, bytes);
                            return bytes;
                        }
                    };
                }
            };
            if (!COMPILER.getTask(Writer.nullWriter(), files, d -> { }, null, null, List.of(text)).call()) {
                return null;
            }
        }
        Map<String, byte[]> classes = new TreeMap<>();
        written.forEach((name, bytes) -> classes.put(name, bytes.toByteArray()));
        return classes;
    }

    /** The mutant's classes, and the tests' own anew with each mutant. */
    private static final class Loader extends ClassLoader {
        private final Map<String, byte[]> classes;

        Loader(Map<String, byte[]> classes) {
            super(ClassLoader.getPlatformClassLoader());
            this.classes = classes;
        }

        @Override protected Class<?> findClass(String name) throws ClassNotFoundException {
            byte[] code = classes.get(name);
            try {
                code = code != null ? code : Files.readAllBytes(TESTS.resolve(name + ".class"));
            } catch (IOException e) {
                throw new ClassNotFoundException(name);
            }
            return defineClass(name, code, 0, code.length);
        }
    }
}
