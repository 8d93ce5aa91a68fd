import java.io.IOException;
import java.io.OutputStream;
import java.net.URL;
import java.net.URLClassLoader;
import java.nio.file.Files;
import java.nio.file.Path;
import java.util.ArrayList;
import java.util.List;
import java.util.Set;
import java.util.TreeSet;
import javax.tools.JavaCompiler;
import javax.tools.ToolProvider;

/**
 * Breaks one sentence of the document at a time in a copy of the program, as ../broken-sentences.txt says, and asks
 * whether that sentence's own test then fails. Run from the project's folder.
 */
public final class BrokenSentencesTest {
    private static final Path SOURCE = Path.of("src/main/java/Marginalia.java");
    private static final Path ROWS = Path.of("src/test/broken-sentences.txt");

    /** Sentences, where in the source to begin, what stands there, and what is put in its place. */
    private static final class Row {
        final Set<String> sentences = new TreeSet<>();
        String where = "";
        String old = "";
        String put = "";

        String in(String source) {
            int begin = source.indexOf(where);
            int at = begin < 0 ? -1 : source.indexOf(old, begin);
            return at < 0 ? null : source.substring(0, at) + put + source.substring(at + old.length());
        }

        @Override
        public String toString() {
            return sentences + ", with '" + put + "' for '" + old + "' in '" + where + "'";
        }
    }

    public static void main(String[] args) throws IOException {
        Check check = new Check();
        String source = Files.readString(SOURCE);
        List<Row> rows = read();
        check.same("broken by the program as it is", Set.of(), Sentences.broken());
        Set<String> held = new TreeSet<>();
        Path out = Files.createTempDirectory("broken");
        List<String> found = rows.parallelStream().map(row -> outcome(row, source, out, rows.indexOf(row))).toList();
        for (int i = 0; i < found.size(); i++) {
            if (found.get(i).equals("stale")) {
                System.out.println("stale, the source has no such words: " + rows.get(i));
            } else {
                check.same(rows.get(i).toString(), "", found.get(i));
                held.addAll(rows.get(i).sentences);
            }
        }
        check.same("the sentences that can be broken", new TreeSet<>(Sentences.all().names()), held);
        delete(out);
        check.finish();
    }

    private static List<Row> read() throws IOException {
        List<Row> rows = new ArrayList<>();
        Row row = null;
        for (String line : Files.readAllLines(ROWS)) {
            String rest = line.length() > 2 ? line.substring(2) : "";
            if (line.isEmpty()) {
                row = null;
            } else {
                if (row == null) {
                    row = new Row();
                    rows.add(row);
                }
                add(row, line.charAt(0), rest);
            }
        }
        return rows;
    }

    private static void add(Row row, char mark, String rest) {
        switch (mark) {
            case '#':
                row.sentences.add(rest);
                break;
            case '@':
                row.where = rest;
                break;
            case '-':
                row.old = row.old.isEmpty() ? rest : row.old + "\n" + rest;
                break;
            default:
                row.put = row.put.isEmpty() ? rest : row.put + "\n" + rest;
                break;
        }
    }

    /** Empty where the sentences' tests fail. */
    private static String outcome(Row row, String source, Path out, int number) {
        String broken = row.in(source);
        if (broken == null) {
            return "stale";
        }
        try {
            Path folder = Files.createDirectories(out.resolve("row" + number));
            Path file = Files.writeString(folder.resolve("Marginalia.java"), broken);
            JavaCompiler compiler = ToolProvider.getSystemJavaCompiler();
            OutputStream nowhere = OutputStream.nullOutputStream();
            if (compiler.run(null, nowhere, nowhere, "-proc:none", "-d", folder.toString(), file.toString()) != 0) {
                return "it does not compile";
            }
            Set<String> wanted = new TreeSet<>(row.sentences);
            wanted.removeAll(brokenWith(folder));
            return wanted.isEmpty() ? "" : "not noticed by " + wanted;
        } catch (IOException | ReflectiveOperationException e) {
            return e.toString();
        }
    }

    private static Set<String> brokenWith(Path folder) throws IOException, ReflectiveOperationException {
        URL tests = BrokenSentencesTest.class.getProtectionDomain().getCodeSource().getLocation();
        URL[] places = {folder.toUri().toURL(), tests};
        try (URLClassLoader loader = new URLClassLoader(places, ClassLoader.getPlatformClassLoader())) {
            Set<String> broken = new TreeSet<>();
            var method = loader.loadClass("Sentences").getDeclaredMethod("broken");
            method.setAccessible(true);
            for (Object sentence : (Set<?>) method.invoke(null)) {
                broken.add((String) sentence);
            }
            return broken;
        }
    }

    private static void delete(Path folder) throws IOException {
        try (var inside = Files.walk(folder)) {
            List<Path> paths = new ArrayList<>(inside.toList());
            for (int i = paths.size() - 1; i >= 0; i--) {
                Files.delete(paths.get(i));
            }
        }
    }
}
