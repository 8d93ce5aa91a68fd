import java.io.IOException;
import java.lang.reflect.Constructor;
import java.lang.reflect.Field;
import java.lang.reflect.Method;
import java.lang.reflect.Modifier;
import java.nio.file.Files;
import java.nio.file.Path;
import java.util.Arrays;
import java.util.Set;
import java.util.TreeSet;

/** The class has the document's public face, and nothing else that another class could use. */
public final class FaceTest {
    private static final Path SOURCE = Path.of("src/main/java/Marginalia.java");

    /** As the document has it, in its order, with what the interface says ahead of the calls. */
    private static final String[] WORDS = {
        "public Marginalia() {",
        "// ---- users",
        "public int user(int right) throws IAE, ISE {",
        "public int setRight(int by, int user, int right) throws IOE, IAE, ISE {",
        "// ---- the text",
        "public int insert(int user, int place, int many, int sign) throws IOE, IAE, ISE {",
        "public int delete(int user, int place, int many) throws IOE, IAE, ISE {",
        "public int length() {",
        "public int sign(int version, int place) throws IOE {",
        "public int now(int version, int place) throws IOE {",
        "public int version() {",
        "// ---- notes",
        "public int note(int user, int from, int to, int view, int content) throws IOE, IAE, ISE {",
        "public int reply(int user, int note, int content) throws IOE, IAE, ISE {",
        "public boolean settle(int user, int note, boolean isSettled) throws IOE, ISE {",
        "public int remove(int user, int note) throws IOE, ISE {",
        "public int propose(int user, int note, int many, int sign) throws IOE, IAE, ISE {",
        "public int take(int user, int note) throws IOE, IAE, ISE {",
        "public int heal() {",
        "// ---- asking",
        "public int many(int what) throws IAE {",
        "public int right(int user) throws IOE {",
        "public int ofNote(int note, int what) throws IOE, IAE {",
        "public int quote(int note, int place) throws IOE {",
        "public boolean sees(int user, int note) throws IOE {",
        "public int thread(int note, int place) throws IOE {",
        "public int over(int user, int place) throws IOE {",
        "public int export(int user, boolean isAll) throws IOE {",
        "public int exported(int place, int what) throws IOE, IAE {",
        "public double meanThread() {",
        "// ---- what would be (nothing is changed)",
        "public int lostBy(int place, int many) throws IOE, IAE {",
        "public int wouldHeal(int note) throws IOE {",
        "public int wouldSee(int user, int right) throws IOE, IAE {",
        "public long digest() {",
    };

    private static final String[] METHODS = {
        "int user(int) IAE ISE",
        "int setRight(int,int,int) IOE IAE ISE",
        "int insert(int,int,int,int) IOE IAE ISE",
        "int delete(int,int,int) IOE IAE ISE",
        "int length()",
        "int sign(int,int) IOE",
        "int now(int,int) IOE",
        "int version()",
        "int note(int,int,int,int,int) IOE IAE ISE",
        "int reply(int,int,int) IOE IAE ISE",
        "boolean settle(int,int,boolean) IOE ISE",
        "int remove(int,int) IOE ISE",
        "int propose(int,int,int,int) IOE IAE ISE",
        "int take(int,int) IOE IAE ISE",
        "int heal()",
        "int many(int) IAE",
        "int right(int) IOE",
        "int ofNote(int,int) IOE IAE",
        "int quote(int,int) IOE",
        "boolean sees(int,int) IOE",
        "int thread(int,int) IOE",
        "int over(int,int) IOE",
        "int export(int,boolean) IOE",
        "int exported(int,int) IOE IAE",
        "double meanThread()",
        "int lostBy(int,int) IOE IAE",
        "int wouldHeal(int) IOE",
        "int wouldSee(int,int) IOE IAE",
        "long digest()",
    };

    public static void main(String[] args) throws IOException {
        Check check = new Check();
        Set<String> names = new TreeSet<>();
        Set<String> found = new TreeSet<>();
        for (Method method : Marginalia.class.getDeclaredMethods()) {
            if (Modifier.isPublic(method.getModifiers())) {
                found.add(text(method));
                names.add(method.getName());
            }
        }
        check.same("the public methods", new TreeSet<>(Arrays.asList(METHODS)), found);
        for (Method method : Marginalia.class.getDeclaredMethods()) {
            check.is(method + " is public or private", isPublicOrPrivate(method.getModifiers()));
            check.is(method + " has a public name only if it is public",
                Modifier.isPublic(method.getModifiers()) || !names.contains(method.getName()));
        }
        checkTheRest(check, names);
        checkTheWords(check);
        check.finish();
    }

    private static void checkTheRest(Check check, Set<String> names) {
        check.same("modifiers", Modifier.PUBLIC | Modifier.FINAL, Marginalia.class.getModifiers());
        Constructor<?>[] constructors = Marginalia.class.getDeclaredConstructors();
        check.same("constructors", 1, constructors.length);
        check.same("the constructor", "public Marginalia()", constructors[0].toString());
        for (Field field : Marginalia.class.getDeclaredFields()) {
            check.is(field + " is private", Modifier.isPrivate(field.getModifiers()));
            check.is(field + " is final, if it is static",
                !Modifier.isStatic(field.getModifiers()) || Modifier.isFinal(field.getModifiers()));
        }
        for (Class<?> inside : Marginalia.class.getDeclaredClasses()) {
            check.is(inside + " is private and static", Modifier.isPrivate(inside.getModifiers())
                && Modifier.isStatic(inside.getModifiers()));
            for (Method method : inside.getDeclaredMethods()) {
                check.is(method + " has a name of its own", !names.contains(method.getName()));
            }
        }
    }

    private static void checkTheWords(Check check) throws IOException {
        String source = Files.readString(SOURCE).replaceAll("\\s+", " ");
        int at = 0;
        for (String shortWords : WORDS) {
            String words = shortWords.replace("IOE", "IndexOutOfBoundsException")
                .replace("IAE", "IllegalArgumentException").replace("ISE", "IllegalStateException");
            int found = source.indexOf(words, at);
            check.is("the source has, in its order, " + words, found >= 0);
            at = Math.max(at, found);
        }
    }

    private static boolean isPublicOrPrivate(int modifiers) {
        return Modifier.isPublic(modifiers) || Modifier.isPrivate(modifiers);
    }

    private static String text(Method method) {
        StringBuilder text = new StringBuilder(method.getReturnType() + " " + method.getName() + "(");
        String comma = "";
        for (Class<?> type : method.getParameterTypes()) {
            text.append(comma).append(type);
            comma = ",";
        }
        text.append(")");
        for (Class<?> type : method.getExceptionTypes()) {
            text.append(type == IndexOutOfBoundsException.class ? " IOE"
                : type == IllegalArgumentException.class ? " IAE"
                : type == IllegalStateException.class ? " ISE" : " " + type);
        }
        return text.toString();
    }
}
