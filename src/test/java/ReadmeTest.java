import java.io.File;
import java.lang.reflect.Method;
import java.lang.reflect.Modifier;
import java.net.URL;
import java.net.URLClassLoader;
import java.nio.file.Files;
import java.nio.file.Path;
import java.util.ArrayList;
import java.util.List;
import java.util.function.Consumer;
import java.util.regex.Matcher;
import java.util.regex.Pattern;
import java.util.stream.Collectors;
import java.util.stream.Stream;
import javax.tools.ToolProvider;

/** What README.md says is so: its example answers what stands behind each call, and it names each call of the face. */
public final class ReadmeTest {
    // The kind and name of a variable, if there is one; the call; what it answers, up to the first sign behind it.
    private static final Pattern LINE = Pattern.compile("(?:int (\\w+) = )?(.+);\\s+// (-?\\w+).*");

    private static final Check check = new Check();

    public static void main(String[] args) throws Exception {
        List<String> readme = Files.readAllLines(Path.of("README.md"));
        example(readme);
        calls(String.join(" ", readme));
        check.due("a script .ci/run", Files.isExecutable(Path.of(".ci/run")), true);
        check.finish();
    }

    private static List<String> blockOfJava(List<String> readme) {
        int from = readme.indexOf("```java") + 1;
        return readme.subList(from, from + readme.subList(from, readme.size()).indexOf("```"));
    }

    private static void example(List<String> readme) throws Exception {
        List<String> lines = new ArrayList<>();
        List<String> due = new ArrayList<>();
        StringBuilder body = new StringBuilder();
        for (String line : blockOfJava(readme)) {
            Matcher matcher = LINE.matcher(line);
            if (!matcher.matches()) {
                body.append(line).append('\n');
                continue;
            }
            String asked = matcher.group(2);
            if (matcher.group(1) != null) {
                body.append("int ").append(matcher.group(1)).append(" = ").append(asked).append(";\n");
                asked = matcher.group(1);
            }
            body.append("tell.accept(String.valueOf(").append(asked).append("));\n");
            lines.add(line);
            due.add(matcher.group(3));
        }
        List<String> got = new ArrayList<>();
        run(body.toString(), got::add);
        check.due("answers of the example", got.size(), blockOfJava(readme).size() - 1);
        for (int k = 0; k < got.size(); k++) {
            if (!got.get(k).equals(due.get(k))) {
                check.tell("README.md: " + lines.get(k) + " answered " + got.get(k));
            }
        }
    }

    private static void run(String body, Consumer<String> tell) throws Exception {
        Path folder = Files.createTempDirectory("readme");
        Path source = folder.resolve("Example.java");
        Files.writeString(source, "public final class Example {\n"
                + "public static void run(java.util.function.Consumer<String> tell) {\n" + body + "}\n}\n");
        int failed = ToolProvider.getSystemJavaCompiler().run(null, null, null, "-cp",
                System.getProperty("java.class.path"), "-d", folder.toString(), source.toString());
        check.due("compiling the example", failed, 0);
        if (failed == 0) {
            try (URLClassLoader loader = new URLClassLoader(new URL[] {folder.toUri().toURL()})) {
                loader.loadClass("Example").getMethod("run", Consumer.class).invoke(null, tell);
            }
        }
        try (Stream<Path> made = Files.list(folder)) {
            made.map(Path::toFile).forEach(File::delete);
        }
        Files.delete(folder);
    }

    private static void calls(String readme) {
        for (Method method : SnowPumps.class.getDeclaredMethods()) {
            if (Modifier.isPublic(method.getModifiers())) {
                String arguments = Stream.of(method.getParameterTypes()).map(type -> "\\w+")
                        .collect(Collectors.joining(", "));
                Pattern named = Pattern.compile("`" + method.getName() + "\\(" + arguments + "\\)`");
                check.due("naming " + method.getName(), named.matcher(readme).find(), true);
            }
        }
    }
}
