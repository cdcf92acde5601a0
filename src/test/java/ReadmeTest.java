import java.io.ByteArrayOutputStream;
import java.io.PrintStream;
import java.lang.reflect.Method;
import java.net.URL;
import java.net.URLClassLoader;
import java.nio.charset.StandardCharsets;
import java.nio.file.Files;
import java.nio.file.Path;
import java.util.Comparator;
import java.util.List;
import java.util.TreeSet;
import java.util.stream.Stream;
import javax.tools.JavaCompiler;
import javax.tools.ToolProvider;

/** README.md tells how to use the class: its example prints what it says, and every call of the face is named. */
public final class ReadmeTest {
    private static final Due DUE = new Due();

    public static void main(String[] args) throws Exception {
        String readme = Files.readString(Path.of("README.md"));
        exampleRuns(blockOf(readme, "java"), blockOf(readme, "text"));
        everyCallIsNamed(readme);
        howToTestIsTold(readme);
        DUE.finish();
    }

    /** The first block of its kind, without its fences; empty, if there is none. */
    private static String blockOf(String readme, String kind) {
        String fence = "```" + kind + "\n";
        int start = readme.indexOf(fence);
        int end = start < 0 ? -1 : readme.indexOf("```", start + fence.length());
        return end < 0 ? "" : readme.substring(start + fence.length(), end);
    }

    private static void exampleRuns(String code, String printed) throws Exception {
        JavaCompiler compiler = ToolProvider.getSystemJavaCompiler();
        DUE.is("a compiler is here", compiler != null, true);
        if (compiler == null) {
            return;
        }
        Path folder = Files.createTempDirectory("readme");
        try {
            Path file = folder.resolve("Example.java");
            Files.writeString(file, code);
            int compiled = compiler.run(null, null, null, "-cp", System.getProperty("java.class.path"), "-d",
                folder.toString(), file.toString());
            DUE.is("the example compiles", compiled, 0);
            if (compiled == 0) {
                DUE.isText("the example", outputOf(folder), printed);
            }
        } finally {
            delete(folder);
        }
    }

    private static String outputOf(Path folder) throws Exception {
        PrintStream before = System.out;
        ByteArrayOutputStream out = new ByteArrayOutputStream();
        try (URLClassLoader loader = new URLClassLoader(new URL[] {folder.toUri().toURL()});
                PrintStream into = new PrintStream(out, true, StandardCharsets.UTF_8)) {
            System.setOut(into);
            Method main = loader.loadClass("Example").getMethod("main", String[].class);
            main.invoke(null, (Object) new String[0]);
        } finally {
            System.setOut(before);
        }
        return out.toString(StandardCharsets.UTF_8).replace("\r", "");
    }

    private static void delete(Path folder) throws Exception {
        try (Stream<Path> files = Files.walk(folder)) {
            List<Path> deepestFirst = files.sorted(Comparator.reverseOrder()).toList();
            for (Path each : deepestFirst) {
                Files.delete(each);
            }
        }
    }

    private static void everyCallIsNamed(String readme) {
        TreeSet<String> missing = new TreeSet<>();
        for (Method method : BrowArmy.class.getMethods()) {
            boolean isOfTheFace = method.getDeclaringClass() == BrowArmy.class;
            if (isOfTheFace && !readme.contains("`" + method.getName() + "`")) {
                missing.add(method.getName());
            }
        }
        DUE.isText("calls that README.md does not name", missing.toString(), "[]");
    }

    private static void howToTestIsTold(String readme) {
        DUE.is("README.md names .ci/run", readme.contains("`bash .ci/run`"), true);
        DUE.is(".ci/run can be run", Files.isExecutable(Path.of(".ci/run")), true);
    }
}
