import java.util.ArrayList;
import java.util.List;
import java.util.Objects;

/** Counts what a test finds, keeps what is wrong, and ends with exit code 1 if anything was. */
final class Check {

    interface Call {
        Object make();
    }

    private static final int SHOWN = 40;

    private final List<String> wrong = new ArrayList<>();
    private int right;

    int right() {
        return right;
    }

    List<String> wrong() {
        return wrong;
    }

    void same(String what, Object want, Object got) {
        if (Objects.equals(want, got)) {
            right++;
        } else {
            wrong.add(what + " answered " + got + ", due is " + want);
        }
    }

    void is(String what, boolean holds) {
        same(what, true, holds);
    }

    /** The call answers, and throws nothing. */
    void allowed(String what, Call call) {
        Object got = outcome(call);
        is(what + " answered " + got + ", it", !(got instanceof String));
    }

    /** The call throws just that class, and the object's digest is the same as ahead of it. */
    void refused(Marginalia x, String what, Class<? extends RuntimeException> kind, Call call) {
        long before = x.digest();
        same(what, kind.getSimpleName(), outcome(call));
        same(what + ", and then digest", before, x.digest());
    }

    /** No such user, note, place, sign or version. */
    void missing(Marginalia x, String what, Call call) {
        refused(x, what, IndexOutOfBoundsException.class, call);
    }

    /** A number outside its range. */
    void unfit(Marginalia x, String what, Call call) {
        refused(x, what, IllegalArgumentException.class, call);
    }

    /** Refused, or a limit is reached. */
    void denied(Marginalia x, String what, Call call) {
        refused(x, what, IllegalStateException.class, call);
    }

    static Object outcome(Call call) {
        try {
            return call.make();
        } catch (RuntimeException e) {
            return e.getClass().getSimpleName();
        }
    }

    void finish() {
        for (int i = 0; i < wrong.size() && i < SHOWN; i++) {
            System.out.println(wrong.get(i));
        }
        System.out.println(right + " checks right, " + wrong.size() + " wrong");
        if (!wrong.isEmpty()) {
            System.exit(1);
        }
    }
}
