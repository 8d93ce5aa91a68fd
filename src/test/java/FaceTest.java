import java.lang.reflect.Constructor;
import java.lang.reflect.Field;
import java.lang.reflect.Method;
import java.lang.reflect.Modifier;
import java.util.Arrays;
import java.util.Set;
import java.util.TreeSet;

/** The class has the document's public face, and nothing else that another class could use. */
public final class FaceTest {
    private static final String[] METHODS = {
        "int user(int) IAE ISE",
        "int setRight(int,int,int) IOE IAE ISE",
        "int insert(int,int,int,int) IOE IAE ISE",
        "int delete(int,int,int) IOE IAE ISE",
        "int length()",
        "int sign(int,int) IOE",
        "int now(int,int) IOE",
        "int version()",
        "int note(int,int,int,int,int) IOE IAE ISE",
        "int reply(int,int,int) IOE IAE ISE",
        "boolean settle(int,int,boolean) IOE ISE",
        "int remove(int,int) IOE ISE",
        "int propose(int,int,int,int) IOE IAE ISE",
        "int take(int,int) IOE IAE ISE",
        "int heal()",
        "int many(int) IAE",
        "int right(int) IOE",
        "int ofNote(int,int) IOE IAE",
        "int quote(int,int) IOE",
        "boolean sees(int,int) IOE",
        "int thread(int,int) IOE",
        "int over(int,int) IOE",
        "int export(int,boolean) IOE",
        "int exported(int,int) IOE IAE",
        "double meanThread()",
        "int lostBy(int,int) IOE IAE",
        "int wouldHeal(int) IOE",
        "int wouldSee(int,int) IOE IAE",
        "long digest()",
    };

    public static void main(String[] args) {
        Check check = new Check();
        Set<String> names = new TreeSet<>();
        Set<String> found = new TreeSet<>();
        for (Method method : Marginalia.class.getDeclaredMethods()) {
            if (Modifier.isPublic(method.getModifiers())) {
                found.add(text(method));
                names.add(method.getName());
            }
        }
        check.same("the public methods", new TreeSet<>(Arrays.asList(METHODS)), found);
        for (Method method : Marginalia.class.getDeclaredMethods()) {
            check.is(method + " is public or private", isPublicOrPrivate(method.getModifiers()));
            check.is(method + " has a public name only if it is public",
                Modifier.isPublic(method.getModifiers()) || !names.contains(method.getName()));
        }
        checkTheRest(check, names);
        check.finish();
    }

    private static void checkTheRest(Check check, Set<String> names) {
        check.same("modifiers", Modifier.PUBLIC | Modifier.FINAL, Marginalia.class.getModifiers());
        Constructor<?>[] constructors = Marginalia.class.getDeclaredConstructors();
        check.same("constructors", 1, constructors.length);
        check.same("the constructor", "public Marginalia()", constructors[0].toString());
        for (Field field : Marginalia.class.getDeclaredFields()) {
            check.is(field + " is private", Modifier.isPrivate(field.getModifiers()));
            check.is(field + " is final, if it is static",
                !Modifier.isStatic(field.getModifiers()) || Modifier.isFinal(field.getModifiers()));
        }
        for (Class<?> inside : Marginalia.class.getDeclaredClasses()) {
            check.is(inside + " is private and static", Modifier.isPrivate(inside.getModifiers())
                && Modifier.isStatic(inside.getModifiers()));
            for (Method method : inside.getDeclaredMethods()) {
                check.is(method + " has a name of its own", !names.contains(method.getName()));
            }
        }
    }

    private static boolean isPublicOrPrivate(int modifiers) {
        return Modifier.isPublic(modifiers) || Modifier.isPrivate(modifiers);
    }

    private static String text(Method method) {
        StringBuilder text = new StringBuilder(method.getReturnType() + " " + method.getName() + "(");
        String comma = "";
        for (Class<?> type : method.getParameterTypes()) {
            text.append(comma).append(type);
            comma = ",";
        }
        text.append(")");
        for (Class<?> type : method.getExceptionTypes()) {
            text.append(type == IndexOutOfBoundsException.class ? " IOE"
                : type == IllegalArgumentException.class ? " IAE"
                : type == IllegalStateException.class ? " ISE" : " " + type);
        }
        return text.toString();
    }
}
