import java.util.Objects;

/** Counts what a test finds, prints what is wrong, and ends with exit code 1 if anything was. */
final class Check {

    interface Call {
        Object make();
    }

    private int right;
    private int wrong;

    void same(String what, Object want, Object got) {
        if (Objects.equals(want, got)) {
            right++;
        } else {
            wrong++;
            System.out.println(what + " answered " + got + ", due is " + want);
        }
    }

    void is(String what, boolean holds) {
        same(what, true, holds);
    }

    /** The call throws just that class, and the object's digest is the same as ahead of it. */
    void refused(Marginalia x, String what, Class<? extends RuntimeException> kind, Call call) {
        long before = x.digest();
        same(what, kind.getSimpleName(), outcome(call));
        same(what + ", and then digest", before, x.digest());
    }

    /** No such user, note, place, sign or version. */
    void missing(Marginalia x, String what, Call call) {
        refused(x, what, IndexOutOfBoundsException.class, call);
    }

    /** A number outside its range. */
    void unfit(Marginalia x, String what, Call call) {
        refused(x, what, IllegalArgumentException.class, call);
    }

    /** Refused, or a limit is reached. */
    void denied(Marginalia x, String what, Call call) {
        refused(x, what, IllegalStateException.class, call);
    }

    static Object outcome(Call call) {
        try {
            return call.make();
        } catch (RuntimeException e) {
            return e.getClass().getSimpleName();
        }
    }

    void finish() {
        System.out.println(right + " checks right, " + wrong + " wrong");
        if (wrong > 0) {
            System.exit(1);
        }
    }
}
