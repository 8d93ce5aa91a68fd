/** Promises 27 to 30: what would be, and the checksum. */
public final class WouldBeTest {
    private static final Check CHECK = new Check();

    public static void main(String[] args) {
        promise27LostBy();
        promise27Refusals();
        promise28WouldHeal();
        promise28FromEndToStart();
        promise29WouldSee();
        promise30Digest();
        promise30WhoSees();
        promise30CountsAll();
        CHECK.finish();
    }

    private static Marginalia page() {
        Marginalia x = new Marginalia();
        x.user(4);
        x.insert(0, 0, 26, 0);
        return x;
    }

    private static void promise27LostBy() {
        Marginalia x = page();
        x.note(0, 5, 8, 2, 0);
        x.note(0, 6, 7, 2, 0);
        x.note(0, 20, 26, 2, 0);
        x.reply(0, 0, 0);
        long before = x.digest();
        CHECK.same("just the two", 2, x.lostBy(5, 3));
        CHECK.same("more than the two", 2, x.lostBy(4, 10));
        CHECK.same("without its first sign", 1, x.lostBy(6, 5));
        CHECK.same("without its last sign", 1, x.lostBy(3, 4));
        CHECK.same("just the small one", 1, x.lostBy(6, 1));
        CHECK.same("beside it", 0, x.lostBy(7, 1));
        CHECK.same("all", 3, x.lostBy(0, 26));
        CHECK.same("to the end", 1, x.lostBy(20, 6));
        CHECK.same("nothing is changed", before, x.digest());
        x.delete(0, 6, 1);
        CHECK.same("those lost do not count", 1, x.lostBy(5, 2));
        x.remove(0, 0);
        CHECK.same("empty ones do", 1, x.lostBy(5, 2));
        x.remove(0, 3);
        CHECK.same("gone ones do not", 0, x.lostBy(5, 2));
    }

    private static void promise27Refusals() {
        Marginalia x = page();
        CHECK.missing(x, "place -1", () -> x.lostBy(-1, 1));
        CHECK.missing(x, "place 26", () -> x.lostBy(26, 1));
        CHECK.missing(x, "place 26, none", () -> x.lostBy(26, 0));
        CHECK.unfit(x, "none", () -> x.lostBy(0, 0));
        CHECK.unfit(x, "less than none", () -> x.lostBy(0, -1));
        CHECK.unfit(x, "one too many", () -> x.lostBy(0, 27));
        CHECK.unfit(x, "one too many from 25 on", () -> x.lostBy(25, 2));
        CHECK.unfit(x, "MAX", () -> x.lostBy(25, Integer.MAX_VALUE));
        CHECK.same("one from 25 on", 0, x.lostBy(25, 1));
    }

    private static void promise28WouldHeal() {
        Marginalia x = page();
        x.note(0, 5, 8, 2, 0);
        x.note(0, 25, 26, 2, 0);
        x.reply(0, 0, 0);
        CHECK.same("where it is", 5, x.wouldHeal(0));
        CHECK.same("at the end", 25, x.wouldHeal(1));
        CHECK.same("of a reply", 5, x.wouldHeal(2));
        x.insert(0, 6, 1, 0);
        CHECK.same("it stands nowhere", -1, x.wouldHeal(0));
        x.insert(0, 20, 3, 5);
        CHECK.same("not lost, and elsewhere", 20, x.wouldHeal(0));
        x.insert(0, 0, 3, 5);
        CHECK.same("the nearer one", 0, x.wouldHeal(0));
        CHECK.same("its anchor is where it was", 8, x.ofNote(0, 4));
        x.delete(0, 3, 1);
        x.insert(0, 12, 1, 5);
        x.insert(0, 13, 2, 6);
        CHECK.same("one behind", 12, x.wouldHeal(2));
        x.delete(0, 7, 1);
        x.insert(0, 0, 1, 9);
        CHECK.same("begins at", 8, x.ofNote(0, 4));
        CHECK.same("4 behind that, 7 ahead", 12, x.wouldHeal(0));
        x.insert(0, 9, 3, 9);
        CHECK.same("7 to both sides: the smaller", 1, x.wouldHeal(0));
        x.remove(0, 1);
        CHECK.missing(x, "a gone one", () -> x.wouldHeal(1));
        CHECK.missing(x, "no such note", () -> x.wouldHeal(3));
        CHECK.missing(x, "note -1", () -> x.wouldHeal(-1));
        x.delete(0, 0, x.length());
        CHECK.same("in no text", -1, x.wouldHeal(0));
    }

    private static void promise28FromEndToStart() {
        Marginalia x = new Marginalia();
        x.user(4);
        x.insert(0, 0, 1, 9);
        x.note(0, 0, 1, 2, 0);
        x.delete(0, 0, 1);
        for (int i = 0; i < 7; i++) {
            x.insert(0, 0, 25, 10);
        }
        x.insert(0, 0, 24, 10);
        CHECK.same("a text without it", -1, x.wouldHeal(0));
        x.insert(0, 0, 1, 9);
        CHECK.same("lost at the end of a full text", 200, x.ofNote(0, 4));
        CHECK.same("found at its start", 0, x.wouldHeal(0));
    }

    private static void promise29WouldSee() {
        Marginalia x = page();
        x.user(2);
        x.user(0);
        x.note(0, 5, 8, 0, 0);
        x.note(1, 5, 8, 0, 0);
        x.note(0, 5, 8, 1, 0);
        x.note(0, 5, 8, 2, 0);
        x.reply(0, 1, 0);
        x.reply(1, 2, 0);
        x.reply(0, 3, 0);
        x.reply(0, 3, 0);
        int[][] due = {{0, 6, 6, 6, 8}, {0, 5, 7, 7, 8}, {0, 3, 5, 5, 8}};
        for (int user = 0; user < 3; user++) {
            for (int right = 0; right <= 4; right++) {
                CHECK.same("wouldSee(" + user + ", " + right + ")", due[user][right], x.wouldSee(user, right));
            }
        }
        CHECK.same("rights are as they were", 0, x.right(2));
        x.remove(0, 3);
        CHECK.same("empty ones count", 3, x.wouldSee(2, 1));
        x.remove(0, 7);
        CHECK.same("gone ones do not", 2, x.wouldSee(2, 1));
        CHECK.missing(x, "no such user", () -> x.wouldSee(3, 1));
        CHECK.missing(x, "user -1, right 5", () -> x.wouldSee(-1, 5));
        CHECK.unfit(x, "right 5", () -> x.wouldSee(0, 5));
        CHECK.unfit(x, "right -1", () -> x.wouldSee(0, -1));
    }

    private static long mixed(long... numbers) {
        long d = 58083;
        for (long number : numbers) {
            d = d * 31 + number;
        }
        return d;
    }

    private static void promise30Digest() {
        Marginalia x = new Marginalia();
        CHECK.same("a new one", mixed(0, 0, 0, 0, 0, 0, 0), x.digest());
        x.user(2);
        CHECK.same("one user", mixed(1, 0, 0, 0, 0, 0, 0, 2, 0, 0, 0), x.digest());
        x.user(4);
        x.insert(1, 0, 7, 21);
        x.note(0, 4, 7, 0, 50);
        x.note(1, 0, 1, 2, 60);
        x.reply(1, 0, 70);
        x.remove(1, 1);
        x.export(0, true);
        x.remove(0, 0);
        x.propose(0, x.note(0, 3, 4, 1, 90), 4, 4);
        CHECK.same("users, signs, notes and an export", mixed(
            2, 3, 2, 2, 0, 7, 1,
            21, 22, 23, 24, 25, 0, 1,
            2, 3, 0, 1,
            4, 0, 0, 1,
            0, 0, -1, 0, -1, 4, 7, 0, 1, 0, 0, -1, 4, 1, 1,
            2, 1, 0, 0, 70, 4, 7, 1, 0, 0, 0, -1, 4, 1, 1,
            3, 0, -1, 3, 90, 3, 4, 0, 0, 0, 1, 4, 3, 1, 1,
            0, 0, 4, 50, 2, 1, 4, 70), x.digest());
    }

    private static void promise30WhoSees() {
        Marginalia x = new Marginalia();
        x.user(4);
        x.user(1);
        x.insert(0, 0, 6, 3);
        x.note(0, 0, 1, 2, 0);
        x.note(0, 5, 6, 0, 0);
        CHECK.same("one note that is not seen", mixed(
            2, 2, 2, 2, 0, 6, 1,
            3, 4, 5, 6, 7, 8,
            4, 2, 1, 1,
            1, 1, 1, 0,
            0, 0, -1, 0, 0, 0, 1, 0, 0, 0, 2, -1, 0, 1, 1,
            1, 0, -1, 1, 0, 5, 6, 0, 0, 0, 0, -1, 5, 1, 0), x.digest());
    }

    private static void promise30CountsAll() {
        Marginalia x = page();
        x.note(0, 5, 8, 2, 0);
        long d = x.digest();
        CHECK.same("twice the same", d, x.digest());
        x.heal();
        x.meanThread();
        x.lostBy(0, 26);
        CHECK.same("after calls that change nothing", d, x.digest());
        x.settle(0, 0, true);
        CHECK.is("other after a change", d != x.digest());
    }
}
