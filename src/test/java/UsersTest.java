/** Promises 1 to 3 and 18: a new object, its users and their rights. */
public final class UsersTest {
    private static final Check CHECK = new Check();

    public static void main(String[] args) {
        promise1NewObject();
        promise2User();
        promise3SetRight();
        promise18Right();
        CHECK.finish();
    }

    private static void promise1NewObject() {
        Marginalia x = new Marginalia();
        CHECK.same("length of a new one", 0, x.length());
        CHECK.same("version of a new one", 0, x.version());
        for (int what = 0; what <= 4; what++) {
            CHECK.same("many(" + what + ") of a new one", 0, x.many(what));
        }
        CHECK.same("sign(0, 0) of a new one", -1, x.sign(0, 0));
        CHECK.same("meanThread of a new one", 0.0, x.meanThread());
        CHECK.same("heal of a new one", 0, x.heal());
        CHECK.missing(x, "right(0) of a new one", () -> x.right(0));
        CHECK.missing(x, "exported(0, 0) of a new one", () -> x.exported(0, 0));
        Marginalia other = new Marginalia();
        other.user(4);
        CHECK.same("users stay with their own object", 0, x.many(0));
    }

    private static void promise2User() {
        Marginalia x = new Marginalia();
        CHECK.unfit(x, "user(-1)", () -> x.user(-1));
        CHECK.unfit(x, "user(5)", () -> x.user(5));
        for (int right = 0; right <= 4; right++) {
            CHECK.same("user(" + right + ")", right, x.user(right));
            CHECK.same("right(" + right + ")", right, x.right(right));
        }
        CHECK.same("the sixth user", 5, x.user(4));
        CHECK.denied(x, "a seventh user", () -> x.user(4));
        CHECK.unfit(x, "a seventh user with no right there is", () -> x.user(5));
        CHECK.same("many(0)", 6, x.many(0));
    }

    private static void promise3SetRight() {
        Marginalia x = new Marginalia();
        x.user(4);
        x.user(3);
        CHECK.same("setRight(0, 1, 0)", 3, x.setRight(0, 1, 0));
        CHECK.same("setRight(0, 1, 2)", 0, x.setRight(0, 1, 2));
        CHECK.same("setRight(0, 1, 3)", 2, x.setRight(0, 1, 3));
        CHECK.same("right(1)", 3, x.right(1));
        CHECK.denied(x, "setRight by one with EDIT", () -> x.setRight(1, 0, 3));
        CHECK.denied(x, "setRight of itself by one with EDIT", () -> x.setRight(1, 1, 1));
        CHECK.missing(x, "setRight(2, 1, 0)", () -> x.setRight(2, 1, 0));
        CHECK.missing(x, "setRight(0, 2, 0)", () -> x.setRight(0, 2, 0));
        CHECK.missing(x, "setRight(-1, 0, 0)", () -> x.setRight(-1, 0, 0));
        CHECK.missing(x, "setRight(0, -1, 0)", () -> x.setRight(0, -1, 0));
        CHECK.missing(x, "setRight(0, 2, 5)", () -> x.setRight(0, 2, 5));
        CHECK.unfit(x, "setRight(0, 1, 5)", () -> x.setRight(0, 1, 5));
        CHECK.unfit(x, "setRight(0, 1, -1)", () -> x.setRight(0, 1, -1));
        CHECK.unfit(x, "setRight(1, 0, 5), refused too", () -> x.setRight(1, 0, 5));
        CHECK.same("an owner may give itself less", 4, x.setRight(0, 0, 4));
        CHECK.same("an owner may give up owning", 4, x.setRight(0, 0, 3));
        CHECK.denied(x, "and then cannot take it back", () -> x.setRight(0, 0, 4));
    }

    private static void promise18Right() {
        Marginalia x = new Marginalia();
        x.user(2);
        CHECK.same("right(0)", 2, x.right(0));
        CHECK.missing(x, "right(1)", () -> x.right(1));
        CHECK.missing(x, "right(-1)", () -> x.right(-1));
        CHECK.missing(x, "right(MAX)", () -> x.right(Integer.MAX_VALUE));
        CHECK.missing(x, "right(MIN)", () -> x.right(Integer.MIN_VALUE));
    }
}
