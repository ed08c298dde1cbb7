import java.io.IOException;
import java.io.StringWriter;
import java.lang.reflect.Method;
import java.net.URI;
import java.net.URL;
import java.net.URLClassLoader;
import java.nio.file.Files;
import java.nio.file.Path;
import java.util.ArrayList;
import java.util.Comparator;
import java.util.List;
import java.util.regex.Matcher;
import java.util.regex.Pattern;
import java.util.stream.Stream;
import javax.tools.JavaCompiler;
import javax.tools.JavaFileObject;
import javax.tools.SimpleJavaFileObject;
import javax.tools.ToolProvider;

/** What README.md says is tried: its code is compiled and run, each answer that it tells is compared. */
public final class ReadmeTest {
    private static final Path README = Path.of("README.md");
    /** A call on a line of its own, and behind it in a comment first of all what it answers. */
    private static final Pattern CALL = Pattern.compile("((?:game\\.|tell\\().*\\));\\s*// (-?\\d+|true|false)(?:[ :,].*)?");

    private final Due due = new Due("ReadmeTest");
    private final String page;

    private ReadmeTest(String itsPage) {
        page = itsPage;
    }

    public static void main(String[] args) throws Exception {
        ReadmeTest test = new ReadmeTest(Files.readString(README));
        test.example();
        test.names();
        test.due.finish();
    }

    private void example() throws Exception {
        List<String> blocks = new ArrayList<>();
        Matcher block = Pattern.compile("(?s)```java\n(.*?)```").matcher(page);
        while (block.find()) blocks.add(block.group(1));
        due.is("blocks of code", blocks.size(), 2);
        if (blocks.size() != 2) return;
        List<String> calls = new ArrayList<>();
        StringBuilder body = new StringBuilder();
        for (String line : blocks.get(1).split("\n")) {
            Matcher call = CALL.matcher(line);
            if (call.matches()) {
                body.append("out.add((").append(call.group(1)).append(") + \"\");\n");
                calls.add(call.group(1) + " is told as " + call.group(2));
            } else {
                due.is("a call without its answer: " + line, line.matches("(game\\.|tell\\().*"), false);
                body.append(line).append('\n');
            }
        }
        due.is("calls", calls.size() > 30, true);
        List<String> answers = ran("public class Example {\n" + blocks.get(0) + "public static void main(java.util.List<String> out) {\n"
            + body + "}\n}\n");
        due.is("answers", answers.size(), calls.size());
        for (int i = 0; i < answers.size() && i < calls.size(); i++) {
            due.is(calls.get(i) + ", and was " + answers.get(i), calls.get(i).endsWith(" is told as " + answers.get(i)), true);
        }
    }

    private List<String> ran(String source) throws Exception {
        JavaCompiler compiler = ToolProvider.getSystemJavaCompiler();
        Path folder = Files.createTempDirectory("readme");
        try {
            JavaFileObject file = new SimpleJavaFileObject(URI.create("string:///Example.java"), JavaFileObject.Kind.SOURCE) {
                @Override
                public CharSequence getCharContent(boolean ignored) {
                    return source;
                }
            };
            StringWriter said = new StringWriter();
            List<String> options = List.of("-proc:none", "-cp", System.getProperty("java.class.path"), "-d", folder.toString());
            boolean compiled = compiler.getTask(said, null, null, options, null, List.of(file)).call();
            due.is("it compiles: " + said, compiled, true);
            List<String> answers = new ArrayList<>();
            if (compiled) {
                try (URLClassLoader loader = new URLClassLoader(new URL[] {folder.toUri().toURL()}, ReadmeTest.class.getClassLoader())) {
                    Method example = loader.loadClass("Example").getMethod("main", List.class);
                    example.invoke(null, answers);
                }
            }
            return answers;
        } finally {
            remove(folder);
        }
    }

    private static void remove(Path folder) throws IOException {
        try (Stream<Path> all = Files.walk(folder)) {
            for (Path path : all.sorted(Comparator.reverseOrder()).toList()) Files.delete(path);
        }
    }

    /** What stands between backquotes is a file here, or a class of the tests; and each class of the tests is told of. */
    private void names() throws IOException {
        due.is(".ci/run can be run", Files.isExecutable(Path.of(".ci/run")), true);
        String prose = page.replaceAll("(?s)```.*?```", "");
        List<String> told = new ArrayList<>();
        Matcher quoted = Pattern.compile("`([^`]+)`").matcher(prose);
        while (quoted.find()) told.add(quoted.group(1));
        for (String name : told) {
            if (name.contains("*") || name.startsWith("java")) continue;
            Path path = name.contains("/") ? Path.of(name) : Path.of("src/test/java", name + ".java");
            due.is("is there: " + path, Files.exists(path), true);
        }
        try (Stream<Path> files = Files.list(Path.of("src/test/java"))) {
            for (Path file : files.toList()) {
                String name = file.getFileName().toString().replace(".java", "");
                due.is("told of: " + name, told.contains(name), true);
            }
        }
    }
}
