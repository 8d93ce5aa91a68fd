/** Exports and the checksum (promises 24, 25 and 30): a test for each sentence that names an edge. */
public final class EdgesOfExportsTest {
    private static final int OWNER = Edges.OWNER;
    private static final int EDITOR = Edges.EDITOR;
    private static final int NOTER = Edges.NOTER;
    private static final int READER = Edges.READER;
    private static final int NOBODY = Edges.NOBODY;

    static void list(Sentences of) {
        of.add("Terms: an EXPORT has the THREADS that the USER SEES", EdgesOfExportsTest::threadsSeen);
        of.add("Terms: an EXPORT goes by where their ANCHORS begin", EdgesOfExportsTest::byBegin);
        of.add("Terms: an EXPORT goes then by where they end", EdgesOfExportsTest::byEnd);
        of.add("Terms: an EXPORT goes then by the numbers of their HEADS", EdgesOfExportsTest::byNumber);
        of.add("Terms: an EXPORT has each in its ORDER", EdgesOfExportsTest::inOrder);
        of.add("Terms: an EXPORT has EMPTY NOTES, too", EdgesOfExportsTest::emptyNotes);
        of.add("Terms: an EXPORT has no GONE ones", EdgesOfExportsTest::withoutGone);
        of.add("24: whether it has SETTLED THREADS, too", EdgesOfExportsTest::settledToo);
        of.add("24: it is kept, as it is, till the next one", EdgesOfExportsTest::keptTillNext);
        of.add("24: returns how many NOTES it has", EdgesOfExportsTest::howMany);
        of.add("24: there is no such USER", EdgesOfExportsTest::byNoUser);
        of.add("25: 0 the NOTE", EdgesOfExportsTest::theNote);
        of.add("25: 1 its DEPTH", EdgesOfExportsTest::itsDepth);
        of.add("25: 2 where the ANCHOR of its HEAD began then", EdgesOfExportsTest::beganThen);
        of.add("25: 3 its CONTENT then (-1, if it was EMPTY)", EdgesOfExportsTest::contentThen);
        of.add("25: there is no such place", EdgesOfExportsTest::noSuchPlace);
        of.add("25: or none is kept", EdgesOfExportsTest::noneKept);
        of.add("25: what is not 0 to 3", EdgesOfExportsTest::what);
        of.add("30: a number d starts with 58083, d becomes d * 31 + x", EdgesOfExportsTest::digestOfNew);
        of.add("30: which wraps around as a 64-bit integer", EdgesOfExportsTest::digestWraps);
        of.add("30: many() of 0 to 4, length(), version()", EdgesOfExportsTest::digestCounts);
        of.add("30: each SIGN of the TEXT", EdgesOfExportsTest::digestSigns);
        of.add("30: for each USER", EdgesOfExportsTest::digestUsers);
        of.add("30: for each NOTE that is not GONE", EdgesOfExportsTest::digestNotes);
        of.add("30: for each place in the EXPORT that is kept", EdgesOfExportsTest::digestExport);
    }

    public static void main(String[] args) {
        Sentences of = new Sentences();
        list(of);
        of.finish();
    }

    private static void exported(Check check, String what, Marginalia x, int user, boolean isAll, int... due) {
        check.same(what + ": export(" + user + ", " + isAll + ")", due.length, x.export(user, isAll));
        column(check, what, x, 0, due);
    }

    private static void column(Check check, String what, Marginalia x, int column, int... due) {
        for (int place = 0; place < due.length; place++) {
            check.same(what + ": exported(" + place + ", " + column + ")", due[place], x.exported(place, column));
        }
        check.missing(x, what + ": behind all", () -> x.exported(due.length, column));
    }

    private static Marginalia noted(int[]... parts) {
        Marginalia x = Edges.page(26);
        for (int[] part : parts) {
            x.note(OWNER, part[0], part[1], 2, x.many(1));
        }
        return x;
    }

    /** Heads 0 to 2 of the noter by views, 3 a reply to the head of view 1; all on one part. */
    private static Marginalia ofViews() {
        Marginalia x = Edges.page(26);
        for (int view = 0; view <= 2; view++) {
            x.note(NOTER, 3, 6, view, 100 + view);
        }
        x.reply(OWNER, 1, 103);
        return x;
    }

    private static void threadsSeen(Check check) {
        Marginalia x = ofViews();
        exported(check, "the owner", x, OWNER, true, 0, 1, 3, 2);
        exported(check, "an editor", x, EDITOR, true, 1, 3, 2);
        exported(check, "their author", x, NOTER, true, 0, 1, 3, 2);
        exported(check, "a reader", x, READER, true, 2);
        exported(check, "one with none", x, NOBODY, true);
        x.setRight(OWNER, NOTER, 0);
        exported(check, "their author with none", x, NOTER, true);
    }

    private static void byBegin(Check check) {
        exported(check, "by begin", noted(new int[][] {{9, 10}, {3, 26}, {0, 20}, {25, 26}, {4, 5}}),
            READER, true, 2, 1, 4, 0, 3);
        Marginalia x = noted(new int[][] {{5, 6}, {4, 5}});
        x.insert(OWNER, 0, 9, 0);
        exported(check, "as they have moved", x, READER, true, 1, 0);
        x.delete(OWNER, 14, 1);
        x.propose(OWNER, 1, 0, 0);
        x.take(OWNER, 1);
        exported(check, "both begin there, both lost", x, READER, true, 0, 1);
    }

    private static void byEnd(Check check) {
        exported(check, "by end", noted(new int[][] {{3, 9}, {3, 5}, {3, 26}, {3, 4}, {2, 20}}),
            READER, true, 4, 3, 1, 0, 2);
        Marginalia x = noted(new int[][] {{3, 6}, {3, 4}});
        x.delete(OWNER, 4, 2);
        exported(check, "both end there now", x, READER, true, 0, 1);
        Marginalia y = noted(new int[][] {{2, 9}, {3, 5}});
        y.delete(OWNER, 2, 1);
        exported(check, "both begin there now", y, READER, true, 1, 0);
    }

    private static void byNumber(Check check) {
        exported(check, "by number", noted(new int[][] {{3, 5}, {2, 4}, {3, 5}, {2, 4}, {3, 5}}),
            READER, true, 1, 3, 0, 2, 4);
        Marginalia x = Edges.heads(60);
        check.same("all of 60", 60, x.export(READER, true));
        for (int place = 0; place < 60; place++) {
            check.same("exported(" + place + ", 0)", place, x.exported(place, 0));
        }
    }

    private static void inOrder(Check check) {
        Marginalia x = noted(new int[][] {{3, 5}, {2, 4}});
        for (int parent : new int[] {0, 1, 0, 2, 3, 0}) {
            x.reply(OWNER, parent, 0);
        }
        exported(check, "two threads", x, READER, true, 1, 3, 6, 0, 2, 5, 4, 7);
    }

    private static void emptyNotes(Check check) {
        Marginalia x = noted(new int[][] {{3, 5}});
        x.reply(OWNER, 0, 1);
        x.reply(OWNER, 1, 2);
        x.remove(OWNER, 1);
        exported(check, "an empty reply", x, READER, true, 0, 1, 2);
        x.remove(OWNER, 0);
        exported(check, "an empty head", x, READER, true, 0, 1, 2);
        exported(check, "an empty head, not settled", x, READER, false, 0, 1, 2);
    }

    private static void withoutGone(Check check) {
        Marginalia x = noted(new int[][] {{3, 5}, {2, 4}});
        x.reply(OWNER, 0, 1);
        x.reply(OWNER, 0, 2);
        x.remove(OWNER, 2);
        exported(check, "a gone reply", x, READER, true, 1, 0, 3);
        x.remove(OWNER, 1);
        exported(check, "a gone head", x, READER, true, 0, 3);
        x.remove(OWNER, 0);
        x.remove(OWNER, 3);
        exported(check, "all gone", x, READER, true);
    }

    private static void settledToo(Check check) {
        Marginalia x = ofViews();
        x.settle(OWNER, 1, true);
        exported(check, "with it", x, OWNER, true, 0, 1, 3, 2);
        exported(check, "without it", x, OWNER, false, 0, 2);
        x.settle(OWNER, 0, true);
        x.settle(OWNER, 2, true);
        exported(check, "without any", x, OWNER, false);
        exported(check, "with all", x, OWNER, true, 0, 1, 3, 2);
    }

    private static void keptTillNext(Check check) {
        Marginalia x = ofViews();
        x.export(OWNER, true);
        x.setRight(OWNER, NOTER, 0);
        x.settle(OWNER, 0, true);
        x.note(OWNER, 0, 1, 2, 0);
        x.remove(OWNER, 2);
        x.insert(OWNER, 0, 3, 0);
        check.missing(x, "by no user", () -> x.export(6, true));
        column(check, "as it is", x, 0, 0, 1, 3, 2);
        x.export(READER, true);
        column(check, "the next one", x, 0, 4);
        x.export(NOBODY, true);
        column(check, "one with none", x, 0);
        x.export(OWNER, false);
        column(check, "a longer one", x, 0, 4, 1, 3);
    }

    private static void howMany(Check check) {
        check.same("none", 0, Edges.page(26).export(OWNER, true));
        Marginalia x = ofViews();
        check.same("all", 4, x.export(OWNER, true));
        check.same("two threads", 3, x.export(EDITOR, true));
        check.same("one", 1, x.export(READER, true));
        check.same("60", 60, Edges.heads(60).export(READER, true));
    }

    private static void byNoUser(Check check) {
        Edges.noSuchUser(check, "export", (x, user) -> x.export(user, true));
    }

    private static Marginalia answered() {
        Marginalia x = noted(new int[][] {{3, 5}, {2, 4}});
        x.reply(OWNER, 0, 999);
        x.reply(OWNER, 2, 0);
        x.remove(OWNER, 2);
        x.export(READER, true);
        return x;
    }

    private static void theNote(Check check) {
        Marginalia x = answered();
        column(check, "notes", x, 0, 1, 0, 2, 3);
        x.remove(OWNER, 3);
        column(check, "gone notes", x, 0, 1, 0, 2, 3);
    }

    private static void itsDepth(Check check) {
        column(check, "depths", answered(), 1, 0, 0, 1, 2);
    }

    private static void beganThen(Check check) {
        Marginalia x = answered();
        column(check, "begins", x, 2, 2, 3, 3, 3);
        x.insert(OWNER, 0, 1, 0);
        column(check, "moved since", x, 2, 2, 3, 3, 3);
        x.delete(OWNER, 0, 27);
        column(check, "lost since", x, 2, 2, 3, 3, 3);
        x.export(READER, true);
        column(check, "the next one", x, 2, 0, 0, 0, 0);
    }

    private static void contentThen(Check check) {
        Marginalia x = answered();
        column(check, "contents", x, 3, 1, 0, -1, 0);
        x.remove(OWNER, 0);
        x.remove(OWNER, 1);
        column(check, "empty and gone since", x, 3, 1, 0, -1, 0);
        x.export(READER, true);
        column(check, "the next one", x, 3, -1, -1, 0);
    }

    private static void noSuchPlace(Check check) {
        for (int what = 0; what <= 3; what++) {
            int asked = what;
            Edges.range(check, "exported " + what + " at", EdgesOfExportsTest::answered, 0, 3, Edges.MISSING,
                (x, place) -> x.exported(place, asked));
        }
        Marginalia x = Edges.heads(60);
        x.export(OWNER, true);
        check.same("the last of 60", 59, x.exported(59, 0));
        check.missing(x, "behind 60", () -> x.exported(60, 0));
        x.settle(OWNER, 0, true);
        x.export(OWNER, false);
        check.missing(x, "behind 59, where there was one", () -> x.exported(59, 0));
    }

    private static void noneKept(Check check) {
        Marginalia x = Edges.heads(1);
        check.missing(x, "ahead of the first", () -> x.exported(0, 0));
        Check.outcome(() -> x.export(6, true));
        check.missing(x, "the first was refused", () -> x.exported(0, 0));
        x.export(NOBODY, true);
        check.missing(x, "one of none", () -> x.exported(0, 0));
    }

    private static void what(Check check) {
        Edges.range(check, "exported what", EdgesOfExportsTest::answered, 0, 3, Edges.UNFIT,
            (x, what) -> x.exported(0, what));
    }

    private static long mixed(long... numbers) {
        long d = 58083;
        for (long number : numbers) {
            d = d * 31 + number;
        }
        return d;
    }

    private static void digestOfNew(Check check) {
        Marginalia x = new Marginalia();
        long due = 58083L * 31 * 31 * 31 * 31 * 31 * 31 * 31;
        check.same("digest", due, x.digest());
        check.same("digest once more", due, x.digest());
    }

    private static void digestWraps(Check check) {
        Marginalia x = Edges.users(0, 0, 0, 0, 0, 0);
        java.math.BigInteger d = java.math.BigInteger.valueOf(58083);
        java.math.BigInteger factor = java.math.BigInteger.valueOf(31);
        for (int number = 0; number < 7 + 6 * 4; number++) {
            d = d.multiply(factor).add(java.math.BigInteger.valueOf(number == 0 ? 6 : 0));
        }
        check.same("digest", d.longValue(), x.digest());
        check.is("it is beyond 64 bits", d.bitLength() > 64);
    }

    private static void digestCounts(Check check) {
        Marginalia x = Edges.users();
        x.user(4);
        x.insert(OWNER, 0, 4, 0);
        x.note(OWNER, 0, 1, 2, 0);
        x.note(OWNER, 1, 2, 2, 0);
        x.reply(OWNER, 0, 0);
        x.settle(OWNER, 1, true);
        x.delete(OWNER, 0, 1);
        for (int note = 2; note >= 0; note--) {
            check.same("notes up to " + note, due(x, 3), x.digest());
            x.remove(OWNER, note);
        }
        check.same("of none", due(x, 3), x.digest());
        check.same("counted", mixed(1, 0, 0, 0, 0, 3, 2, 1, 2, 3, 4, 0, 0, 0), x.digest());
    }

    /** The document's numbers, asked for one by one, of so many notes ever and without an export. */
    private static long due(Marginalia x, int notes) {
        int length = x.length();
        int version = x.version();
        int users = x.many(0);
        long d = 58083;
        for (int what = 0; what <= 4; what++) {
            d = d * 31 + x.many(what);
        }
        d = (d * 31 + length) * 31 + version;
        for (int place = 0; place < length; place++) {
            d = d * 31 + x.sign(version, place);
        }
        for (int user = 0; user < users; user++) {
            d = d * 31 + x.right(user);
            d = d * 31 + x.wouldSee(user, 1);
            d = (d * 31 + x.over(user, 0)) * 31 + x.over(user, 5);
        }
        for (int note = 0; note < notes; note++) {
            d = mixNote(d, x, note, users);
        }
        return d;
    }

    private static long mixNote(long start, Marginalia x, int note, int users) {
        if (Check.outcome(() -> x.ofNote(note, 0)) instanceof String) {
            return start;
        }
        long d = start * 31 + note;
        for (int what = 0; what <= 10; what++) {
            d = d * 31 + x.ofNote(note, what);
        }
        d = d * 31 + x.wouldHeal(note);
        for (int user = 0; user < users; user++) {
            d = d * 31 + (x.sees(user, note) ? 1 : 0);
        }
        return d;
    }

    private static void digestSigns(Check check) {
        Marginalia x = Edges.users(2, 4);
        x.insert(1, 0, 3, 24);
        check.same("three signs", mixed(2, 0, 0, 0, 0, 3, 1, 24, 25, 0, 2, 0, 0, 0, 4, 0, 0, 0), x.digest());
        x.delete(1, 0, 2);
        check.same("one sign", mixed(2, 0, 0, 0, 0, 1, 2, 0, 2, 0, 0, 0, 4, 0, 0, 0), x.digest());
        Marginalia full = Edges.page(200);
        check.same("200 signs", due(full, 0), full.digest());
    }

    private static void digestUsers(Check check) {
        Marginalia x = Edges.users(4, 0);
        x.insert(OWNER, 0, 6, 0);
        x.note(OWNER, 0, 6, 2, 0);
        x.note(OWNER, 5, 6, 0, 0);
        x.remove(OWNER, 0);
        check.same("an owner's note of view 0", mixed(2, 1, 1, 1, 0, 6, 1, 0, 1, 2, 3, 4, 5,
            4, 1, 0, 1, 0, 0, 0, 0,
            1, 0, -1, 1, 0, 5, 6, 0, 0, 0, 0, -1, 5, 1, 0), x.digest());
        x.note(OWNER, 0, 1, 2, 0);
        check.same("over the first sign", mixed(2, 2, 2, 2, 0, 6, 1, 0, 1, 2, 3, 4, 5,
            4, 2, 1, 1, 0, 1, 0, 0,
            1, 0, -1, 1, 0, 5, 6, 0, 0, 0, 0, -1, 5, 1, 0,
            2, 0, -1, 2, 0, 0, 1, 0, 0, 0, 2, -1, 0, 1, 0), x.digest());
    }

    private static void digestNotes(Check check) {
        Marginalia x = ofViews();
        check.same("four notes", due(x, 4), x.digest());
        x.propose(OWNER, 1, 0, 0);
        x.delete(OWNER, 3, 3);
        check.same("lost ones", due(x, 4), x.digest());
        x.settle(OWNER, 1, true);
        x.remove(OWNER, 1);
        x.remove(OWNER, 0);
        check.same("one empty, one gone", due(x, 4), x.digest());
        Marginalia none = new Marginalia();
        check.same("none", mixed(0, 0, 0, 0, 0, 0, 0), none.digest());
    }

    private static void digestExport(Check check) {
        Marginalia x = Edges.users(4);
        x.insert(OWNER, 0, 1, 9);
        x.note(OWNER, 0, 1, 2, 7);
        x.reply(OWNER, 0, 8);
        x.export(OWNER, true);
        x.remove(OWNER, 1);
        x.remove(OWNER, 0);
        check.same("two that are gone", mixed(1, 0, 0, 0, 0, 1, 1, 9, 4, 0, 0, 0,
            0, 0, 0, 7, 1, 1, 0, 8), x.digest());
        x.export(OWNER, true);
        check.same("none in it", mixed(1, 0, 0, 0, 0, 1, 1, 9, 4, 0, 0, 0), x.digest());
    }
}
