import java.io.IOException;
import java.lang.reflect.Method;
import java.lang.reflect.Modifier;
import java.net.URL;
import java.net.URLClassLoader;
import java.nio.charset.StandardCharsets;
import java.nio.file.Files;
import java.nio.file.Path;
import java.util.ArrayList;
import java.util.List;
import java.util.Map;
import java.util.TreeMap;
import java.util.regex.Matcher;
import java.util.regex.Pattern;
import javax.tools.JavaCompiler;
import javax.tools.ToolProvider;

/**
 * The examples of README.md answer what they show. An answer stands behind its call, written as Java would write it;
 * what follows a colon is for the reader. The examples are made a program, so that they are known to compile too.
 */
public final class ReadmeTests {
    private static final Pattern BLOCK = Pattern.compile("(?ms)^```java\n(.*?)^```$");
    private static final Pattern SHOWN = Pattern.compile("bench\\.(\\w+)\\((.*)\\); +// (throws )?(.+?)(: .*)?");
    private static final Pattern SILENT = Pattern.compile("bench\\.(\\w+)\\(.*\\);");
    private static final String MAKING = "LanguageAtoms bench = new LanguageAtoms();";
    private static final Pattern PATH = Pattern.compile("`([.\\w/]+/[.\\w]+)`");
    private static final Map<String, Method> methods = new TreeMap<>();
    private static final List<String> used = new ArrayList<>();
    private static int answers = 0;
    private static int wrong = 0;

    /** A call of an example. */
    public interface Call {
        Object answer();
    }

    private static void due(boolean fine, String what) {
        if (!fine) {
            wrong++;
            System.out.println("README.md: " + what);
        }
    }

    /** Numbers are compared as they are written: an int and a long may be the same, a number and a double may not. */
    public static void answers(String call, Object got, Object want) {
        answers++;
        due(want.toString().equals(got.toString()), call + " answered " + got + ", shown is " + want);
    }

    public static void refuses(String line, Call call, String exception) {
        answers++;
        String got;
        try {
            got = "answered " + call.answer();
        } catch (RuntimeException e) {
            got = e.getClass().getSimpleName();
        }
        due(got.equals(exception), line + " gave: " + got);
    }

    private static boolean isVoid(String name) {
        return methods.containsKey(name) && methods.get(name).getReturnType() == void.class;
    }

    /** The line of the program for a line of an example. */
    private static String translate(String line) {
        Matcher shown = SHOWN.matcher(line);
        if (shown.matches()) {
            used.add(shown.group(1));
            String call = "bench." + shown.group(1) + "(" + shown.group(2) + ")";
            if (shown.group(3) == null) {
                return "ReadmeTests.answers(\"" + call + "\", " + call + ", " + shown.group(4) + ");";
            }
            String body = isVoid(shown.group(1)) ? "{ " + call + "; return \"nothing\"; }" : call;
            return "ReadmeTests.refuses(\"" + call + "\", () -> " + body + ", \"" + shown.group(4) + "\");";
        }
        Matcher silent = SILENT.matcher(line);
        if (silent.matches()) {
            used.add(silent.group(1));
            due(isVoid(silent.group(1)), line + " shows no answer");
            return line;
        }
        due(line.isEmpty() || line.startsWith("// ") || line.equals(MAKING), "what is this: " + line);
        return line;
    }

    private static String program(String readme) {
        StringBuilder text = new StringBuilder("public final class ReadmeExamples implements Runnable {\n");
        StringBuilder calls = new StringBuilder("public void run() {\n");
        int number = 0;
        for (Matcher block = BLOCK.matcher(readme); block.find(); number++) {
            text.append("static void asWritten" + number + "() {\n" + block.group(1) + "}\n");
            text.append("static void example" + number + "() {\n");
            for (String line : block.group(1).split("\n")) {
                text.append(translate(line)).append('\n');
            }
            text.append("}\n");
            calls.append("example" + number + "();\n");
        }
        return text.append(calls).append("}\n}\n").toString();
    }

    private static void runProgram(String program, Path folder) throws Exception {
        Path source = folder.resolve("ReadmeExamples.java");
        Files.writeString(source, program, StandardCharsets.UTF_8);
        JavaCompiler compiler = ToolProvider.getSystemJavaCompiler();
        due(compiler != null, "the tests need a JDK");
        if (compiler == null) {
            return;
        }
        int code = compiler.run(null, null, null, "-encoding", "UTF-8", "-cp", System.getProperty("java.class.path"),
            "-d", folder.toString(), source.toString());
        due(code == 0, "the examples do not compile");
        if (code == 0) {
            try (URLClassLoader loader = new URLClassLoader(new URL[] {folder.toUri().toURL()})) {
                ((Runnable) loader.loadClass("ReadmeExamples").getConstructor().newInstance()).run();
            }
        }
    }

    private static void delete(Path folder) throws IOException {
        for (String name : new String[] {"ReadmeExamples.java", "ReadmeExamples.class", ""}) {
            Files.deleteIfExists(folder.resolve(name));
        }
    }

    private static void checkPaths(String readme, Path root) {
        for (Matcher path = PATH.matcher(readme); path.find();) {
            due(Files.exists(root.resolve(path.group(1))), "there is no " + path.group(1));
        }
        due(readme.contains("    .ci/run\n"), "it says how to run the tests");
    }

    public static void main(String[] args) throws Exception {
        Path file = Path.of(args.length > 2 ? args[2] : "README.md").toAbsolutePath();
        String readme = Files.readString(file, StandardCharsets.UTF_8);
        for (Method method : LanguageAtoms.class.getDeclaredMethods()) {
            if (Modifier.isPublic(method.getModifiers())) {
                methods.put(method.getName(), method);
            }
        }
        Path folder = Files.createTempDirectory("readme");
        try {
            runProgram(program(readme), folder);
        } finally {
            delete(folder);
        }
        for (String name : methods.keySet()) {
            due(used.contains(name), "no example uses " + name);
        }
        checkPaths(readme, file.getParent());
        System.out.println(answers + " answers of README.md tried, " + wrong + " faults");
        System.exit(wrong == 0 ? 0 : 1);
    }
}
