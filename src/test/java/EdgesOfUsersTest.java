/** Users and rights (promises 1 to 3 and 18): a test for each sentence that names an edge. */
public final class EdgesOfUsersTest {

    static void list(Sentences of) {
        of.add("Terms: USERS at most 6", EdgesOfUsersTest::atMostSix);
        of.add("Terms: USERS are numbered from 0", EdgesOfUsersTest::numberedFrom0);
        of.add("Terms: each RIGHT has all that the smaller ones allow", EdgesOfUsersTest::smallerRights);
        of.add("1: an empty TEXT without USERS", EdgesOfUsersTest::emptyObject);
        of.add("2: right is not 0 to 4", EdgesOfUsersTest::userRight);
        of.add("2: there are 6", EdgesOfUsersTest::aSeventh);
        of.add("3: by is a USER with OWN", EdgesOfUsersTest::setRightNeedsOwn);
        of.add("3: the RIGHT from now on", EdgesOfUsersTest::fromNowOn);
        of.add("3: returns the one before", EdgesOfUsersTest::theOneBefore);
        of.add("3: there is no such USER as by", EdgesOfUsersTest::noSuchBy);
        of.add("3: there is no such USER", EdgesOfUsersTest::noSuchUser);
        of.add("3: right is not 0 to 4", EdgesOfUsersTest::setRightRight);
        of.add("18: returns the RIGHT", EdgesOfUsersTest::eachRight);
        of.add("18: there is no such USER", EdgesOfUsersTest::rightOfNoUser);
    }

    public static void main(String[] args) {
        Sentences of = new Sentences();
        list(of);
        of.finish();
    }

    private static void atMostSix(Check check) {
        Marginalia x = new Marginalia();
        for (int user = 0; user < 6; user++) {
            check.same("many(0)", user, x.many(0));
            check.allowed("user " + user, () -> x.user(4));
        }
        check.same("many(0) of all", 6, x.many(0));
        check.allowed("right of the sixth", () -> x.right(5));
    }

    private static void numberedFrom0(Check check) {
        Marginalia x = new Marginalia();
        for (int user = 0; user < 6; user++) {
            check.same("the number", user, x.user(4 - user % 5));
        }
    }

    private static void smallerRights(Check check) {
        for (int right = 1; right <= 4; right++) {
            Marginalia x = Edges.owners(2);
            x.setRight(0, 1, right);
            check.same("READ for " + right, true, x.sees(1, 0));
            if (right >= 2) {
                check.allowed("NOTE for " + right, () -> x.reply(1, 0, 0));
            }
            if (right >= 3) {
                check.allowed("EDIT for " + right, () -> x.insert(1, 0, 1, 0));
            }
        }
    }

    private static void emptyObject(Check check) {
        Marginalia x = new Marginalia();
        for (int what = 0; what <= 4; what++) {
            check.same("many(" + what + ")", 0, x.many(what));
        }
        check.same("length", 0, x.length());
        check.same("version", 0, x.version());
        check.same("sign(0, 0)", -1, x.sign(0, 0));
        check.same("meanThread", 0.0, x.meanThread());
        check.same("heal", 0, x.heal());
        check.missing(x, "right(0)", () -> x.right(0));
        check.missing(x, "now(0, 0)", () -> x.now(0, 0));
        check.missing(x, "lostBy(0, 1)", () -> x.lostBy(0, 1));
        check.missing(x, "ofNote(0, 0)", () -> x.ofNote(0, 0));
        check.missing(x, "exported(0, 0)", () -> x.exported(0, 0));
        Marginalia other = Edges.heads(2);
        check.same("another object's notes stay its own", 0, x.many(1));
        check.same("another object's notes", 2, other.many(1));
    }

    private static void userRight(Check check) {
        Edges.range(check, "user", Marginalia::new, 0, 4, Edges.UNFIT, (x, right) -> x.user(right));
    }

    private static void aSeventh(Check check) {
        Marginalia five = Edges.users(4, 4, 4, 4, 4);
        check.allowed("the sixth", () -> five.user(0));
        for (int right = 0; right <= 4; right++) {
            int given = right;
            check.denied(five, "the seventh with " + right, () -> five.user(given));
        }
    }

    private static void setRightNeedsOwn(Check check) {
        Edges.needsRight(check, "setRight of another", 4, (x, user) -> x.setRight(user, 0, 3));
        Edges.needsRight(check, "setRight of itself", 4, (x, user) -> x.setRight(user, user, 1));
    }

    private static void fromNowOn(Check check) {
        Marginalia x = Edges.users(4, 2);
        x.setRight(0, 1, 4);
        check.allowed("by one who owns now", () -> x.setRight(1, 0, 3));
        check.denied(x, "by one who does not any more", () -> x.setRight(0, 1, 1));
        check.same("the right of the other one", 4, x.right(1));
        check.allowed("an owner gives it up", () -> x.setRight(1, 1, 0));
        check.denied(x, "and can't take it back", () -> x.setRight(1, 1, 4));
    }

    private static void theOneBefore(Check check) {
        Marginalia x = Edges.users(4, 0);
        for (int right = 1; right <= 4; right++) {
            check.same("before " + right, right - 1, x.setRight(0, 1, right));
        }
        check.same("the same once more", 4, x.setRight(0, 1, 4));
        check.same("of itself", 4, x.setRight(0, 0, 0));
    }

    private static void noSuchBy(Check check) {
        Edges.noSuchUser(check, "setRight by", (x, user) -> x.setRight(user, 0, 4));
    }

    private static void noSuchUser(Check check) {
        Edges.noSuchUser(check, "setRight of", (x, user) -> x.setRight(0, user, 4));
    }

    private static void setRightRight(Check check) {
        Edges.range(check, "setRight", () -> Edges.users(4, 2), 0, 4, Edges.UNFIT,
            (x, right) -> x.setRight(0, 1, right));
    }

    private static void eachRight(Check check) {
        Marginalia x = Edges.users(0, 1, 2, 3, 4);
        for (int right = 0; right <= 4; right++) {
            check.same("right(" + right + ")", right, x.right(right));
        }
    }

    private static void rightOfNoUser(Check check) {
        Edges.noSuchUser(check, "right", (x, user) -> x.right(user));
    }
}
