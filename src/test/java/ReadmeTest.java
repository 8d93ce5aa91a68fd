import java.io.IOException;
import java.lang.reflect.Method;
import java.lang.reflect.Modifier;
import java.net.URL;
import java.net.URLClassLoader;
import java.nio.file.Files;
import java.nio.file.Path;
import java.util.ArrayList;
import java.util.List;
import java.util.regex.Matcher;
import java.util.regex.Pattern;
import javax.tools.ToolProvider;

/** What README.md shows of calls and their answers is true when run; from the project's folder. */
public final class ReadmeTest {
    private static final Path README = Path.of("README.md");
    private static final Path TESTS = Path.of("src/test/java");
    private static final int MOST_CALLS = 512;
    private static final String MAKES = "Marginalia page = new Marginalia();";
    private static final Pattern CALL = Pattern.compile("(?:(\\w+ \\w+) = )?(page\\.\\w+\\(.*\\)); +// ([^:]*)(: .*)?");

    public static void main(String[] args) throws IOException, ReflectiveOperationException {
        Check check = new Check();
        String readme = Files.readString(README);
        List<Matcher> calls = calls(check, readme);
        List<String> answers = answers(calls);
        check.is("there are calls, and at most " + MOST_CALLS, !calls.isEmpty() && calls.size() <= MOST_CALLS);
        for (int i = 0; i < calls.size(); i++) {
            check.same("README.md: " + calls.get(i).group(2), calls.get(i).group(3), answers.get(i));
        }
        namesAllCalls(check, readme);
        namesAllTests(check, readme);
        check.finish();
    }

    /** Each line of the shown code is the making of the object, a call with its answer, a comment, or empty. */
    private static List<Matcher> calls(Check check, String readme) {
        List<Matcher> calls = new ArrayList<>();
        String code = readme.split("```java\n")[1].split("```")[0];
        check.is("the code begins with a new object", code.startsWith(MAKES));
        for (String line : code.substring(MAKES.length()).split("\n")) {
            Matcher call = CALL.matcher(line);
            if (call.matches()) {
                calls.add(call);
            } else {
                check.is("no call without its answer: " + line, line.isEmpty() || line.startsWith("//"));
            }
        }
        return calls;
    }

    private static List<String> answers(List<Matcher> calls) throws IOException, ReflectiveOperationException {
        Path folder = Files.createTempDirectory("readme");
        Path file = folder.resolve("ReadmeRun.java");
        Files.writeString(file, program(calls));
        ToolProvider.getSystemJavaCompiler().run(null, System.out, System.out, "-proc:none", "-cp",
            System.getProperty("java.class.path"), "-d", folder.toString(), file.toString());
        List<String> answers = new ArrayList<>();
        try (URLClassLoader loader = new URLClassLoader(new URL[] {folder.toUri().toURL()})) {
            for (Object answer : (List<?>) loader.loadClass("ReadmeRun").getMethod("answers").invoke(null)) {
                answers.add((String) answer);
            }
        }
        Files.delete(folder.resolve("ReadmeRun.class"));
        Files.delete(file);
        Files.delete(folder);
        return answers;
    }

    private static String program(List<Matcher> calls) {
        StringBuilder program = new StringBuilder("import java.util.*; public final class ReadmeRun {\n"
            + "public static List<String> answers() { List<String> all = new ArrayList<>();\n" + MAKES + "\n");
        for (Matcher call : calls) {
            String kept = call.group(1);
            if (kept == null) {
                program.append("try { all.add(String.valueOf(" + call.group(2) + ")); } catch (RuntimeException e) "
                    + "{ all.add(\"throws \" + e.getClass().getSimpleName()); }\n");
            } else {
                program.append(kept + " = " + call.group(2) + "; all.add(String.valueOf(" + kept.split(" ")[1] + "));\n");
            }
        }
        return program.append("return all; } }\n").toString();
    }

    private static void namesAllCalls(Check check, String readme) {
        for (Method method : Marginalia.class.getDeclaredMethods()) {
            if (Modifier.isPublic(method.getModifiers())) {
                check.is("it shows " + method.getName(), readme.contains("page." + method.getName() + "("));
            }
        }
    }

    private static void namesAllTests(Check check, String readme) throws IOException {
        try (var files = Files.list(TESTS)) {
            for (Path file : files.toList()) {
                String name = file.getFileName().toString().replace(".java", "");
                String shown = name.replaceFirst("^EdgesOf.*Test$", "EdgesOf...Test");
                check.is("it names " + name, readme.contains("`" + shown + "`"));
            }
        }
    }
}
