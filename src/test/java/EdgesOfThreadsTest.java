/** What is settled, removed and seen, and how a thread goes: a test for each sentence that names an edge. */
public final class EdgesOfThreadsTest {
    private static final int OWNER = Edges.OWNER;
    private static final int EDITOR = Edges.EDITOR;
    private static final int NOTER = Edges.NOTER;
    private static final int READER = Edges.READER;
    private static final int NOBODY = Edges.NOBODY;
    private static final int OTHER_NOTER = Edges.OTHER_NOTER;

    static void list(Sentences of) {
        of.add("12: the AUTHOR of its HEAD", EdgesOfThreadsTest::settleByAuthor);
        of.add("12: or a USER with EDIT", EdgesOfThreadsTest::settleNeedsEdit);
        of.add("12: note is a NOTE of it", EdgesOfThreadsTest::settleByAnyNote);
        of.add("12: whether it is SETTLED from now on", EdgesOfThreadsTest::settleFromNowOn);
        of.add("12: returns whether it was", EdgesOfThreadsTest::settleReturns);
        of.add("12: there is no such USER", EdgesOfThreadsTest::settleByNoUser);
        of.add("12: there is no such NOTE", EdgesOfThreadsTest::settleNoNote);
        of.add("12: or that is GONE", EdgesOfThreadsTest::settleGone);
        of.add("12: it is refused to one who does not SEE it", EdgesOfThreadsTest::settleNeedsSight);
        of.add("Terms: REMOVED, EMPTY if a REPLY to it is not GONE", EdgesOfThreadsTest::emptyWithReply);
        of.add("Terms: REMOVED, otherwise GONE", EdgesOfThreadsTest::goneWithoutReply);
        of.add("Terms: its PARENT, if that is EMPTY, is GONE, too", EdgesOfThreadsTest::emptyParentGoes);
        of.add("Terms: its PARENT stays, if that is not EMPTY", EdgesOfThreadsTest::parentStays);
        of.add("Terms: its PARENT stays, if a REPLY to that is left", EdgesOfThreadsTest::parentWithReplyStays);
        of.add("Terms: GONE, and so on", EdgesOfThreadsTest::andSoOn);
        of.add("13: its AUTHOR", EdgesOfThreadsTest::removeByAuthor);
        of.add("13: or a USER with OWN", EdgesOfThreadsTest::removeNeedsOwn);
        of.add("13: returns how many are GONE by that, itself, too", EdgesOfThreadsTest::howManyGone);
        of.add("13: 0, if it is EMPTY then", EdgesOfThreadsTest::noneGone);
        of.add("13: there is no such USER", EdgesOfThreadsTest::removeByNoUser);
        of.add("13: there is no such NOTE", EdgesOfThreadsTest::removeNoNote);
        of.add("13: or that is GONE", EdgesOfThreadsTest::removeGone);
        of.add("13: it is refused to one who does not SEE it", EdgesOfThreadsTest::removeNeedsSight);
        of.add("13: it is EMPTY", EdgesOfThreadsTest::removeEmpty);
        of.add("Terms: a USER whose RIGHT is none SEES no NOTE", EdgesOfThreadsTest::noneSeesNothing);
        of.add("Terms: SEES, the VIEW is 2", EdgesOfThreadsTest::view2);
        of.add("Terms: SEES, the VIEW is 1, and the RIGHT is NOTE or more", EdgesOfThreadsTest::view1);
        of.add("Terms: SEES, the AUTHOR of the HEAD", EdgesOfThreadsTest::authorOfHead);
        of.add("Terms: SEES, the RIGHT is OWN", EdgesOfThreadsTest::own);
        of.add("21: there is no such USER", EdgesOfThreadsTest::seesByNoUser);
        of.add("21: there is no such NOTE", EdgesOfThreadsTest::seesNoNote);
        of.add("21: or that is GONE", EdgesOfThreadsTest::seesGone);
        of.add("Terms: ORDER, the REPLIES by numbers, each with all behind it", EdgesOfThreadsTest::orderOfReplies);
        of.add("Terms: ORDER, those that are GONE left out", EdgesOfThreadsTest::orderWithoutGone);
        of.add("22: the ORDER of its THREAD, from 0", EdgesOfThreadsTest::orderOfItsThread);
        of.add("22: -1 if there is none", EdgesOfThreadsTest::orderWhereNone);
        of.add("22: there is no such NOTE", EdgesOfThreadsTest::threadOfNoNote);
        of.add("22: or it is GONE", EdgesOfThreadsTest::threadOfGone);
        of.add("29: how many NOTES the USER would SEE with it", EdgesOfThreadsTest::wouldSeeEach);
        of.add("29: NOTES that are not GONE", EdgesOfThreadsTest::wouldSeeNotGone);
        of.add("29: there is no such USER", EdgesOfThreadsTest::wouldSeeByNoUser);
        of.add("29: right is not 0 to 4", EdgesOfThreadsTest::wouldSeeRight);
    }

    public static void main(String[] args) {
        Sentences of = new Sentences();
        list(of);
        of.finish();
    }

    /** A head of the noter and a reply of the other one. */
    private static Marginalia answered(int view) {
        Marginalia x = Edges.page(26);
        x.note(NOTER, 3, 6, view, 100);
        x.reply(view == 0 ? OWNER : OTHER_NOTER, 0, 101);
        return x;
    }

    /** As many notes, each of the owner, each but the first a reply to the one ahead. */
    private static Marginalia chain(int many) {
        Marginalia x = Edges.page(26);
        x.note(OWNER, 3, 6, 2, 0);
        for (int note = 1; note < many; note++) {
            x.reply(OWNER, note - 1, note);
        }
        return x;
    }

    private static void settleByAuthor(Check check) {
        for (int view = 0; view <= 2; view++) {
            Marginalia x = answered(view);
            check.same("with NOTE", false, x.settle(NOTER, 0, true));
            x.setRight(OWNER, NOTER, 1);
            check.same("with READ", true, x.settle(NOTER, 1, false));
        }
        Marginalia x = answered(2);
        check.denied(x, "the author of a reply", () -> x.settle(OTHER_NOTER, 1, true));
        check.denied(x, "one with READ", () -> x.settle(READER, 0, true));
    }

    private static void settleNeedsEdit(Check check) {
        Edges.needsRight(check, "settle", 3, (x, user) -> x.settle(user, 0, true));
        Edges.needsRight(check, "settle not", 3, (x, user) -> x.settle(user, 0, false));
    }

    private static void settleByAnyNote(Check check) {
        Marginalia x = chain(3);
        x.note(OWNER, 3, 6, 2, 0);
        for (int note = 0; note < 3; note++) {
            x.settle(OWNER, note, true);
            check.same("settled by " + note, 1, x.ofNote(0, 8));
            check.same("the other thread", 0, x.ofNote(3, 8));
            x.settle(OWNER, 2 - note, false);
            check.same("not any more, by " + (2 - note), 0, x.ofNote(0, 8));
        }
        x.remove(OWNER, 0);
        x.settle(OWNER, 0, true);
        check.same("settled by an empty one", 1, x.ofNote(2, 8));
    }

    private static void settleFromNowOn(Check check) {
        Marginalia x = chain(2);
        x.settle(OWNER, 0, false);
        check.same("not settled, as it was", 0, x.ofNote(1, 8));
        x.settle(OWNER, 0, true);
        check.same("settled", 1, x.ofNote(1, 8));
        x.settle(OWNER, 0, true);
        check.same("settled, as it was", 1, x.ofNote(1, 8));
        x.settle(OWNER, 0, false);
        check.same("not any more", 0, x.ofNote(1, 8));
    }

    private static void settleReturns(Check check) {
        Marginalia x = chain(1);
        check.same("not, and not", false, x.settle(OWNER, 0, false));
        check.same("not, and then", false, x.settle(OWNER, 0, true));
        check.same("then, and then", true, x.settle(OWNER, 0, true));
        check.same("then, and not", true, x.settle(OWNER, 0, false));
    }

    private static void settleByNoUser(Check check) {
        Edges.noSuchUser(check, "settle", (x, user) -> x.settle(user, 0, true));
    }

    private static void settleNoNote(Check check) {
        Edges.noSuchNote(check, "settle", 60, (x, note) -> x.settle(OWNER, note, true));
    }

    private static void settleGone(Check check) {
        Edges.goneNote(check, "settle", (x, note) -> x.settle(OWNER, note, true));
    }

    private static void settleNeedsSight(Check check) {
        Edges.needsSight(check, "settle", (x, user) -> x.settle(user, 0, true));
        Marginalia x = answered(2);
        x.setRight(OWNER, NOTER, 0);
        check.denied(x, "its author, who sees no note", () -> x.settle(NOTER, 0, true));
    }

    private static void emptyWithReply(Check check) {
        Marginalia x = chain(3);
        x.remove(OWNER, 1);
        check.same("a reply that has one", -1, x.ofNote(1, 3));
        check.same("its author stays", OWNER, x.ofNote(1, 0));
        x.remove(OWNER, 0);
        check.same("a head whose reply is empty, not gone", -1, x.ofNote(0, 3));
        check.same("none is gone", 3, x.many(1));
        check.same("the last has its content", 2, x.ofNote(2, 3));
    }

    private static void goneWithoutReply(Check check) {
        Marginalia x = chain(2);
        x.remove(OWNER, 1);
        check.missing(x, "a reply", () -> x.ofNote(1, 0));
        x.remove(OWNER, 0);
        check.missing(x, "a head whose reply is gone", () -> x.ofNote(0, 0));
        Marginalia y = chain(1);
        y.remove(OWNER, 0);
        check.missing(y, "a head that had none", () -> y.ofNote(0, 0));
        check.same("none is left", 0, y.many(1));
    }

    private static void emptyParentGoes(Check check) {
        Marginalia x = chain(3);
        x.remove(OWNER, 1);
        x.remove(OWNER, 2);
        check.missing(x, "an empty reply", () -> x.ofNote(1, 0));
        check.same("its parent", 0, x.ofNote(0, 7));
        Marginalia y = chain(2);
        y.remove(OWNER, 0);
        y.remove(OWNER, 1);
        check.missing(y, "an empty head", () -> y.ofNote(0, 0));
        check.same("no thread", 0, y.many(2));
    }

    private static void parentStays(Check check) {
        Marginalia x = chain(2);
        x.remove(OWNER, 1);
        check.same("the head", 0, x.ofNote(0, 3));
        check.same("has no reply", 0, x.ofNote(0, 7));
        check.same("one is left", 1, x.many(1));
        Marginalia y = chain(4);
        y.remove(OWNER, 0);
        y.remove(OWNER, 2);
        y.remove(OWNER, 3);
        check.same("one between that is not empty", 1, y.ofNote(1, 3));
        check.same("keeps an empty one", -1, y.ofNote(0, 3));
        check.same("two are left", 2, y.many(1));
    }

    private static void parentWithReplyStays(Check check) {
        Marginalia x = chain(2);
        x.reply(OWNER, 0, 5);
        x.reply(OWNER, 0, 6);
        x.remove(OWNER, 0);
        x.remove(OWNER, 2);
        check.same("two replies are left", 2, x.ofNote(0, 7));
        x.remove(OWNER, 1);
        check.same("one is left", 1, x.ofNote(0, 7));
        x.remove(OWNER, 3);
        check.missing(x, "none is left", () -> x.ofNote(0, 7));
        Marginalia y = chain(2);
        y.reply(OWNER, 0, 5);
        y.reply(OWNER, 2, 6);
        y.remove(OWNER, 0);
        y.remove(OWNER, 2);
        y.remove(OWNER, 1);
        check.same("an empty reply is left", 1, y.ofNote(0, 7));
    }

    private static void andSoOn(Check check) {
        Marginalia x = chain(60);
        for (int note = 0; note < 59; note++) {
            x.remove(OWNER, note);
        }
        check.same("59 are empty, none is gone", 60, x.many(1));
        x.remove(OWNER, 59);
        check.same("all are gone", 0, x.many(1));
        check.same("no thread", 0, x.many(2));
        check.missing(x, "the head", () -> x.ofNote(0, 0));
    }

    private static void removeByAuthor(Check check) {
        for (int right = 1; right <= 4; right++) {
            Marginalia x = answered(2);
            x.setRight(OWNER, OTHER_NOTER, right);
            check.same("a reply with right " + right, 1, x.remove(OTHER_NOTER, 1));
            x.setRight(OWNER, NOTER, right);
            check.same("a head with right " + right, 1, x.remove(NOTER, 0));
        }
        Marginalia x = answered(2);
        check.denied(x, "a reply by the author of its head", () -> x.remove(NOTER, 1));
        check.denied(x, "a head by the author of a reply", () -> x.remove(OTHER_NOTER, 0));
    }

    private static void removeNeedsOwn(Check check) {
        Edges.needsRight(check, "remove", 4, (x, user) -> x.remove(user, 0));
    }

    private static void howManyGone(Check check) {
        Marginalia x = chain(4);
        check.same("itself", 1, x.remove(OWNER, 3));
        x.remove(OWNER, 1);
        check.same("itself and its empty parent", 2, x.remove(OWNER, 2));
        check.same("the head that is left", 1, x.remove(OWNER, 0));
        Marginalia y = chain(60);
        for (int note = 0; note < 59; note++) {
            y.remove(OWNER, note);
        }
        check.same("all of 60", 60, y.remove(OWNER, 59));
    }

    private static void noneGone(Check check) {
        Marginalia x = chain(3);
        check.same("a reply", 0, x.remove(OWNER, 1));
        check.same("a head", 0, x.remove(OWNER, 0));
        check.same("none is gone", 3, x.many(1));
    }

    private static void removeByNoUser(Check check) {
        Edges.noSuchUser(check, "remove", (x, user) -> x.remove(user, 0));
    }

    private static void removeNoNote(Check check) {
        Edges.noSuchNote(check, "remove", 60, (x, note) -> x.remove(OWNER, note));
    }

    private static void removeGone(Check check) {
        Edges.goneNote(check, "remove", (x, note) -> x.remove(OWNER, note));
    }

    private static void removeNeedsSight(Check check) {
        Marginalia x = Edges.page(26);
        x.note(OWNER, 3, 6, 1, 0);
        x.reply(NOTER, 0, 0);
        x.setRight(OWNER, NOTER, 1);
        check.denied(x, "an author with READ, of view 1", () -> x.remove(NOTER, 1));
        x.setRight(OWNER, NOTER, 0);
        check.denied(x, "an author with none", () -> x.remove(NOTER, 1));
        x.setRight(OWNER, NOTER, 2);
        check.same("an author who sees it", 1, x.remove(NOTER, 1));
        Marginalia y = answered(2);
        y.setRight(OWNER, NOTER, 0);
        check.denied(y, "the author of a head with none", () -> y.remove(NOTER, 0));
    }

    private static void removeEmpty(Check check) {
        Marginalia x = chain(3);
        x.remove(OWNER, 0);
        x.remove(OWNER, 1);
        check.denied(x, "an empty head", () -> x.remove(OWNER, 0));
        check.denied(x, "an empty reply", () -> x.remove(OWNER, 1));
        check.same("all are there", 3, x.many(1));
    }

    private static void seen(Check check, Marginalia x, int note, boolean... due) {
        for (int user = 0; user < due.length; user++) {
            check.same("sees(" + user + ", " + note + ")", due[user], x.sees(user, note));
        }
    }

    private static void noneSeesNothing(Check check) {
        for (int view = 0; view <= 2; view++) {
            Marginalia x = answered(view);
            check.same("view " + view, false, x.sees(NOBODY, 0));
            check.same("a reply, view " + view, false, x.sees(NOBODY, 1));
            x.setRight(OWNER, NOTER, 0);
            check.same("its author, view " + view, false, x.sees(NOTER, 0));
            x.setRight(OWNER, NOTER, 1);
            check.same("its author with READ, view " + view, true, x.sees(NOTER, 0));
        }
    }

    private static void view2(Check check) {
        Marginalia x = answered(2);
        seen(check, x, 0, true, true, true, true, false, true);
        seen(check, x, 1, true, true, true, true, false, true);
        x.remove(NOTER, 0);
        seen(check, x, 0, true, true, true, true, false, true);
    }

    private static void view1(Check check) {
        Marginalia x = answered(1);
        seen(check, x, 0, true, true, true, false, false, true);
        seen(check, x, 1, true, true, true, false, false, true);
        x.setRight(OWNER, OTHER_NOTER, 1);
        check.same("the author of a reply with READ", false, x.sees(OTHER_NOTER, 1));
    }

    private static void authorOfHead(Check check) {
        Marginalia x = answered(0);
        seen(check, x, 0, true, false, true, false, false, false);
        seen(check, x, 1, true, false, true, false, false, false);
        x.setRight(OWNER, OTHER_NOTER, 4);
        x.reply(OTHER_NOTER, 0, 0);
        x.setRight(OWNER, OTHER_NOTER, 3);
        check.same("the author of a reply", false, x.sees(OTHER_NOTER, 2));
    }

    private static void own(Check check) {
        Marginalia x = answered(0);
        x.setRight(OWNER, OTHER_NOTER, 4);
        check.same("the head", true, x.sees(OTHER_NOTER, 0));
        check.same("a reply", true, x.sees(OTHER_NOTER, 1));
        x.setRight(OWNER, OTHER_NOTER, 3);
        check.same("not with EDIT", false, x.sees(OTHER_NOTER, 0));
        check.same("an editor", false, x.sees(EDITOR, 1));
    }

    private static void seesByNoUser(Check check) {
        Edges.noSuchUser(check, "sees", (x, user) -> x.sees(user, 0));
    }

    private static void seesNoNote(Check check) {
        Edges.noSuchNote(check, "sees", 60, (x, note) -> x.sees(OWNER, note));
    }

    private static void seesGone(Check check) {
        Edges.goneNote(check, "sees", (x, note) -> x.sees(OWNER, note));
    }

    /** Head 0 has 2, 3 and 8; 2 has 4 and 7; 4 has 6; 3 has 9; head 1 has 5. */
    private static Marginalia branched() {
        Marginalia x = Edges.heads(2);
        for (int parent : new int[] {0, 0, 2, 1, 4, 2, 0, 3}) {
            x.reply(OWNER, parent, 0);
        }
        return x;
    }

    private static void orderOfReplies(Check check) {
        Marginalia x = branched();
        Edges.order(check, "ten notes", x, 0, 0, 2, 4, 6, 7, 3, 9, 8);
        x.reply(OWNER, 6, 0);
        Edges.order(check, "one deep down", x, 0, 0, 2, 4, 6, 10, 7, 3, 9, 8);
        x.reply(OWNER, 0, 0);
        Edges.order(check, "one to the head", x, 0, 0, 2, 4, 6, 10, 7, 3, 9, 8, 11);
        x.reply(OWNER, 3, 0);
        Edges.order(check, "one between", x, 0, 0, 2, 4, 6, 10, 7, 3, 9, 12, 8, 11);
        Marginalia line = chain(60);
        check.same("the first of 60", 0, line.thread(59, 0));
        check.same("the last of 60", 59, line.thread(59, 59));
        check.same("behind the last of 60", -1, line.thread(59, 60));
    }

    private static void orderWithoutGone(Check check) {
        Marginalia x = branched();
        x.remove(OWNER, 8);
        Edges.order(check, "without the last", x, 0, 0, 2, 4, 6, 7, 3, 9);
        x.remove(OWNER, 4);
        Edges.order(check, "an empty one is in it", x, 0, 0, 2, 4, 6, 7, 3, 9);
        x.remove(OWNER, 6);
        Edges.order(check, "without one between and its parent", x, 0, 0, 2, 7, 3, 9);
        x.reply(OWNER, 2, 0);
        Edges.order(check, "with one behind those", x, 0, 0, 2, 7, 10, 3, 9);
        x.remove(OWNER, 0);
        Edges.order(check, "an empty head is in it", x, 0, 0, 2, 7, 10, 3, 9);
        Edges.order(check, "the other thread", x, 1, 1, 5);
    }

    private static void orderOfItsThread(Check check) {
        Marginalia x = branched();
        for (int note : new int[] {0, 2, 3, 4, 6, 7, 8, 9}) {
            check.same("the first, by " + note, 0, x.thread(note, 0));
            check.same("the last, by " + note, 8, x.thread(note, 7));
        }
        Edges.order(check, "the other head", x, 1, 1, 5);
        Edges.order(check, "a reply to the other head", x, 5, 1, 5);
        Edges.order(check, "a head alone", chain(1), 0, 0);
    }

    private static void orderWhereNone(Check check) {
        Marginalia x = branched();
        for (int place : new int[] {8, 9, 60, -1, -2, Edges.MIN, Edges.MAX}) {
            check.same("thread(3, " + place + ")", -1, x.thread(3, place));
        }
        check.same("where there is one", 8, x.thread(3, 7));
    }

    private static void threadOfNoNote(Check check) {
        Edges.noSuchNote(check, "thread", 60, (x, note) -> x.thread(note, 0));
    }

    private static void threadOfGone(Check check) {
        Edges.goneNote(check, "thread", (x, note) -> x.thread(note, 0));
    }

    private static void wouldSeeEach(Check check) {
        Marginalia x = Edges.page(26);
        for (int view = 0; view <= 2; view++) {
            x.note(NOTER, 3, 6, view, 0);
            x.reply(OWNER, 2 * view, 0);
        }
        x.note(OWNER, 3, 6, 0, 0);
        int[][] due = {{0, 3, 5, 5, 7}, {0, 2, 4, 4, 7}, {0, 6, 6, 6, 7}};
        for (int user = 0; user < 3; user++) {
            for (int right = 0; right <= 4; right++) {
                check.same("wouldSee(" + user + ", " + right + ")", due[user][right], x.wouldSee(user, right));
            }
            check.same("the right stays", 4 - user, x.right(user));
        }
        check.same("without notes", 0, Edges.page(26).wouldSee(OWNER, 4));
        check.same("of 60", 60, chain(60).wouldSee(READER, 1));
    }

    private static void wouldSeeNotGone(Check check) {
        Marginalia x = chain(3);
        x.remove(OWNER, 0);
        x.remove(OWNER, 1);
        check.same("empty ones", 3, x.wouldSee(READER, 1));
        x.remove(OWNER, 2);
        check.same("gone ones", 0, x.wouldSee(READER, 1));
        check.same("gone ones for an owner", 0, x.wouldSee(OWNER, 4));
    }

    private static void wouldSeeByNoUser(Check check) {
        Edges.noSuchUser(check, "wouldSee", (x, user) -> x.wouldSee(user, 1));
    }

    private static void wouldSeeRight(Check check) {
        Edges.range(check, "wouldSee", () -> chain(1), 0, 4, Edges.UNFIT, (x, right) -> x.wouldSee(READER, right));
    }
}
