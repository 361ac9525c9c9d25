import java.io.IOException;
import java.lang.reflect.Method;
import java.lang.reflect.Modifier;
import java.net.URL;
import java.net.URLClassLoader;
import java.nio.file.Files;
import java.nio.file.Path;
import java.util.ArrayList;
import java.util.List;
import java.util.regex.Matcher;
import java.util.regex.Pattern;
import java.util.stream.Stream;
import javax.tools.JavaCompiler;
import javax.tools.ToolProvider;

/** That the pieces of Java in README.md, one behind the other, compile and answer what stands behind their calls. */
public final class ReadmeTest {
    private static final Path README = Path.of("README.md");
    private static final Pattern ASKED = Pattern.compile("^(x\\..*\\));\\s*// (-?\\d+|true|false)\\b.*$");

    public static void main(String[] args) throws Exception {
        Check c = new Check("ReadmeTest");
        Path dir = Files.createTempDirectory("readme");
        try {
            List<String> calls = new ArrayList<>();
            List<Long> wants = new ArrayList<>();
            Files.writeString(dir.resolve("ReadmeRun.java"), program(Files.readAllLines(README), calls, wants));
            long[] answers = answersOf(dir);
            c.due("calls are found in README.md", calls.size() > 50, true);
            namesEveryCall(c, Files.readString(README));
            c.due("each has its answer", answers.length, calls.size());
            for (int i = 0; i < answers.length; i++) {
                c.due(calls.get(i), answers[i], wants.get(i));
            }
        } finally {
            clear(dir);
        }
        c.end();
    }

    private static void namesEveryCall(Check c, String page) {
        for (Method m : LeapArches.class.getDeclaredMethods()) {
            if (Modifier.isPublic(m.getModifiers())) {
                c.due(m.getName() + " is named in README.md", Pattern.compile("\\b" + m.getName() + "\\b").matcher(page).find(), true);
            }
        }
    }

    /** A piece that begins with a static method is put beside main, every other one into it. */
    private static String program(List<String> lines, List<String> calls, List<Long> wants) {
        StringBuilder members = new StringBuilder();
        StringBuilder body = new StringBuilder();
        StringBuilder piece = null;
        for (String line : lines) {
            if (line.equals("```java")) {
                piece = body;
            } else if (line.equals("```")) {
                piece = null;
            } else if (piece != null) {
                piece = line.startsWith("static ") ? members : piece;
                Matcher m = ASKED.matcher(line);
                if (m.matches()) {
                    calls.add(m.group(1));
                    wants.add(m.group(2).equals("true") ? 1L : m.group(2).equals("false") ? 0L : Long.parseLong(m.group(2)));
                    piece.append("a.add(number(").append(m.group(1)).append("));\n");
                } else {
                    piece.append(line).append('\n');
                }
            }
        }
        return "public final class ReadmeRun {\n" + members
            + "static long number(long v) { return v; }\nstatic long number(boolean v) { return v ? 1 : 0; }\n"
            + "public static long[] answers() {\njava.util.List<Long> a = new java.util.ArrayList<>();\n" + body
            + "return a.stream().mapToLong(Long::longValue).toArray();\n}\n}\n";
    }

    private static long[] answersOf(Path dir) throws Exception {
        JavaCompiler compiler = ToolProvider.getSystemJavaCompiler();
        String classPath = System.getProperty("java.class.path");
        int failed = compiler.run(null, null, null, "-cp", classPath, "-d", dir.toString(), dir.resolve("ReadmeRun.java").toString());
        if (failed != 0) {
            throw new IllegalStateException("the Java in README.md does not compile");
        }
        try (URLClassLoader loader = new URLClassLoader(new URL[] {dir.toUri().toURL()}, ReadmeTest.class.getClassLoader())) {
            return (long[]) loader.loadClass("ReadmeRun").getMethod("answers").invoke(null);
        }
    }

    private static void clear(Path dir) throws IOException {
        try (Stream<Path> files = Files.list(dir)) {
            for (Path file : files.toList()) {
                Files.delete(file);
            }
        }
        Files.delete(dir);
    }
}
