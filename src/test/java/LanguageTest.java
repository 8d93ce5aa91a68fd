import java.io.IOException;
import java.nio.file.Files;
import java.nio.file.Path;
import java.util.List;
import java.util.regex.Matcher;
import java.util.regex.Pattern;

/** What of ../shared/LANGUAGE.md can be told from the source's words; run from the project's folder. */
public final class LanguageTest {
    private static final Path SOURCE = Path.of("src/main/java/Marginalia.java");
    private static final int LONGEST_METHOD = 60;
    private static final List<String> BARRED = List.of("import ", "package ", "->", "::", "catch", "finally", "assert",
        "synchronized", "native", "volatile", "transient", "equals(", "hashCode", "toString", "Exact(", "protected",
        "instanceof", "System.out", "System.current", "System.nano", "Random", "Thread", "static {", "double[]");
    private static final List<String> THROWN = List.of("IndexOutOfBoundsException", "IllegalArgumentException",
        "IllegalStateException");

    public static void main(String[] args) throws IOException {
        Check check = new Check();
        String source = Files.readString(SOURCE);
        for (String words : BARRED) {
            check.is("no '" + words + "'", !source.replace("meanThread", "").contains(words));
        }
        for (int i = 0; i < source.length(); i++) {
            if (source.charAt(i) > 126) {
                check.same("a sign beyond ASCII at " + i, ' ', source.charAt(i));
            }
        }
        Matcher thrown = Pattern.compile("throw ([^(]*)\\(").matcher(source);
        while (thrown.find()) {
            check.is("throw " + thrown.group(1), THROWN.contains(thrown.group(1).replace("new ", "")));
        }
        methodsAreShort(check, source.split("\n"));
        check.finish();
    }

    private static void methodsAreShort(Check check, String[] lines) {
        for (int start = 0; start < lines.length; start++) {
            String indent = lines[start].replaceAll("\\S.*", "");
            if (lines[start].endsWith(") {") && (indent.length() == 4 || indent.length() == 8)) {
                int end = start;
                while (!lines[end].equals(indent + "}")) {
                    end++;
                }
                check.is("line " + (start + 1) + " begins a short method", end - start < LONGEST_METHOD);
            }
        }
    }
}
