/** Notes, replies and proposals (promises 10, 11, 14 and 15): a test for each sentence that names an edge. */
public final class EdgesOfNotesTest {
    private static final int OWNER = Edges.OWNER;
    private static final int EDITOR = Edges.EDITOR;
    private static final int NOTER = Edges.NOTER;

    static void list(Sentences of) {
        of.add("Terms: at most 60 NOTES ever", EdgesOfNotesTest::atMost60);
        of.add("Terms: NOTES are numbered from 0", EdgesOfNotesTest::numberedFrom0);
        of.add("Terms: the HEAD of REPLIES is that of the PARENT", EdgesOfNotesTest::headOfReplies);
        of.add("10: user is a USER with NOTE", EdgesOfNotesTest::noteNeedsNote);
        of.add("10: user is the AUTHOR", EdgesOfNotesTest::noteAuthor);
        of.add("10: a HEAD, not SETTLED", EdgesOfNotesTest::noteIsNotSettled);
        of.add("10: there is no such USER", EdgesOfNotesTest::noteByNoUser);
        of.add("10: from is below 0", EdgesOfNotesTest::noteFrom);
        of.add("10: to is not above it", EdgesOfNotesTest::noteToAboveFrom);
        of.add("10: to is above how many SIGNS there are", EdgesOfNotesTest::noteToInText);
        of.add("10: view is not 0 to 2", EdgesOfNotesTest::noteView);
        of.add("10: content is not 0 to 999", EdgesOfNotesTest::noteContent);
        of.add("10: there were 60", EdgesOfNotesTest::noteBeyond60);
        of.add("11: user is a USER with NOTE", EdgesOfNotesTest::replyNeedsNote);
        of.add("11: user is the AUTHOR", EdgesOfNotesTest::replyAuthor);
        of.add("11: the THREAD is not SETTLED any more by that", EdgesOfNotesTest::replyUnsettles);
        of.add("11: there is no such USER", EdgesOfNotesTest::replyByNoUser);
        of.add("11: there is no such NOTE", EdgesOfNotesTest::replyToNoNote);
        of.add("11: or that is GONE", EdgesOfNotesTest::replyToGone);
        of.add("11: content is not 0 to 999", EdgesOfNotesTest::replyContent);
        of.add("11: it is refused to one who does not SEE it", EdgesOfNotesTest::replyNeedsSight);
        of.add("11: the PARENT is EMPTY", EdgesOfNotesTest::replyToEmpty);
        of.add("11: there were 60", EdgesOfNotesTest::replyBeyond60);
        of.add("14: in the place of the one before", EdgesOfNotesTest::proposalInPlace);
        of.add("14: user is a USER with NOTE", EdgesOfNotesTest::proposeNeedsNote);
        of.add("14: returns the number of the HEAD", EdgesOfNotesTest::proposeReturns);
        of.add("14: there is no such USER", EdgesOfNotesTest::proposeByNoUser);
        of.add("14: there is no such NOTE", EdgesOfNotesTest::proposeForNoNote);
        of.add("14: or that is GONE", EdgesOfNotesTest::proposeForGone);
        of.add("14: it is no HEAD", EdgesOfNotesTest::proposeForReply);
        of.add("14: many is not 0 to 40", EdgesOfNotesTest::proposeMany);
        of.add("14: sign is not 0 to 25", EdgesOfNotesTest::proposeSign);
        of.add("14: it is refused to one who does not SEE it", EdgesOfNotesTest::proposeNeedsSight);
        of.add("14: the HEAD is EMPTY", EdgesOfNotesTest::proposeForEmpty);
        EdgesOfTakingTest.list(of);
    }

    public static void main(String[] args) {
        Sentences of = new Sentences();
        list(of);
        of.finish();
    }

    private static Marginalia noted(int view) {
        Marginalia x = Edges.page(26);
        x.note(NOTER, 3, 6, view, 100);
        return x;
    }

    private static void atMost60(Check check) {
        Marginalia x = Edges.page(26);
        for (int note = 0; note < 60; note++) {
            int number = note % 3 == 0 ? x.note(NOTER, 0, 1, 2, note) : x.reply(NOTER, note - note % 3, note);
            check.same("the number", note, number);
        }
        check.same("notes", 60, x.many(1));
        check.denied(x, "a 61st head", () -> x.note(NOTER, 0, 1, 2, 0));
        check.denied(x, "a 61st, as a reply", () -> x.reply(NOTER, 0, 0));
        x.remove(NOTER, 59);
        x.remove(NOTER, 1);
        check.denied(x, "a head, ever, though two are gone", () -> x.note(NOTER, 0, 1, 2, 0));
        check.denied(x, "a reply, ever, though two are gone", () -> x.reply(NOTER, 0, 0));
        check.same("notes left", 58, x.many(1));
    }

    private static void numberedFrom0(Check check) {
        Marginalia x = Edges.page(26);
        check.same("the first", 0, x.note(OWNER, 0, 1, 2, 0));
        check.same("a reply", 1, x.reply(OWNER, 0, 0));
        check.same("a head", 2, x.note(OWNER, 0, 1, 2, 0));
        x.remove(OWNER, 2);
        check.same("the number of a gone one is not given again", 3, x.note(OWNER, 0, 1, 2, 0));
        check.same("to a reply neither", 4, x.reply(OWNER, 3, 0));
    }

    private static void headOfReplies(Check check) {
        Marginalia x = Edges.heads(2);
        x.reply(OWNER, 1, 0);
        x.reply(OWNER, 2, 0);
        x.reply(OWNER, 3, 0);
        x.reply(OWNER, 0, 0);
        int[] heads = {0, 1, 1, 1, 1, 0};
        int[] parents = {-1, -1, 1, 2, 3, 0};
        for (int note = 0; note < 6; note++) {
            check.same("head of " + note, heads[note], x.ofNote(note, 2));
            check.same("parent of " + note, parents[note], x.ofNote(note, 1));
        }
    }

    private static void noteNeedsNote(Check check) {
        Edges.needsRight(check, "note", 2, (x, user) -> x.note(user, 0, 1, 2, 0));
        Edges.needsRight(check, "note of view 0", 2, (x, user) -> x.note(user, 0, 1, 0, 0));
    }

    private static void noteAuthor(Check check) {
        for (int user = 0; user < 6; user++) {
            Marginalia x = Edges.owners(6);
            x.note(user, 0, 1, 2, 0);
            check.same("author", user, x.ofNote(1, 0));
        }
    }

    private static void noteIsNotSettled(Check check) {
        Marginalia x = noted(2);
        x.settle(OWNER, 0, true);
        x.note(NOTER, 3, 6, 2, 100);
        check.same("one beside a settled one", 0, x.ofNote(1, 8));
        check.same("the settled one", 1, x.ofNote(0, 8));
        check.same("not settled", 1, x.many(3));
    }

    private static void noteByNoUser(Check check) {
        Edges.noSuchUser(check, "note", (x, user) -> x.note(user, 0, 1, 2, 0));
    }

    private static void noteFrom(Check check) {
        Marginalia x = Edges.page(26);
        check.unfit(x, "from -1", () -> x.note(OWNER, -1, 1, 2, 0));
        check.unfit(x, "from -1 to 0", () -> x.note(OWNER, -1, 0, 2, 0));
        check.unfit(x, "from MIN", () -> x.note(OWNER, Edges.MIN, 1, 2, 0));
        check.same("from 0", 0, x.note(OWNER, 0, 1, 2, 0));
        Edges.anchor(check, "from 0", x, 0, 0, 1);
    }

    private static void noteToAboveFrom(Check check) {
        for (int from : new int[] {0, 1, 12, 25}) {
            Marginalia x = Edges.page(26);
            check.unfit(x, "to " + from + ", from it", () -> x.note(OWNER, from, from, 2, 0));
            check.unfit(x, "to one below " + from, () -> x.note(OWNER, from, from - 1, 2, 0));
            check.unfit(x, "to MIN from " + from, () -> x.note(OWNER, from, Edges.MIN, 2, 0));
            check.same("to one above " + from, 0, x.note(OWNER, from, from + 1, 2, 0));
            Edges.anchor(check, "one sign", x, 0, from, from + 1);
        }
    }

    private static void noteToInText(Check check) {
        for (int signs : new int[] {1, 26, 199, 200}) {
            Marginalia x = Edges.page(signs);
            check.unfit(x, "one beyond the text", () -> x.note(OWNER, 0, signs + 1, 2, 0));
            check.unfit(x, "all beyond the text", () -> x.note(OWNER, signs, signs + 1, 2, 0));
            check.unfit(x, "to MAX", () -> x.note(OWNER, signs - 1, Edges.MAX, 2, 0));
            check.same("all the text", 0, x.note(OWNER, 0, signs, 2, 0));
            Edges.anchor(check, "all the text", x, 0, 0, signs);
            check.same("its last sign", 1, x.note(OWNER, signs - 1, signs, 2, 0));
            Edges.anchor(check, "its last sign", x, 1, signs - 1, signs);
        }
        Marginalia none = Edges.page(0);
        check.unfit(none, "on no text", () -> none.note(OWNER, 0, 1, 2, 0));
        Marginalia cut = Edges.page(26);
        cut.delete(OWNER, 25, 1);
        check.unfit(cut, "on what was deleted", () -> cut.note(OWNER, 25, 26, 2, 0));
    }

    private static void noteView(Check check) {
        Edges.range(check, "note of view", () -> Edges.page(26), 0, 2, Edges.UNFIT,
            (x, view) -> x.note(OWNER, 0, 1, view, 0));
    }

    private static void noteContent(Check check) {
        Edges.range(check, "note of content", () -> Edges.page(26), 0, 999, Edges.UNFIT,
            (x, content) -> x.note(OWNER, 0, 1, 2, content));
        Marginalia x = Edges.page(26);
        x.note(OWNER, 0, 1, 2, 0);
        x.note(OWNER, 0, 1, 2, 999);
        check.same("the least", 0, x.ofNote(0, 3));
        check.same("the most", 999, x.ofNote(1, 3));
    }

    private static void noteBeyond60(Check check) {
        Marginalia x = Edges.heads(59);
        check.same("the 60th", 59, x.note(OWNER, 0, 1, 2, 0));
        check.denied(x, "the 61st", () -> x.note(OWNER, 0, 1, 2, 0));
        x.remove(OWNER, 59);
        check.denied(x, "as the 60th is gone", () -> x.note(OWNER, 0, 1, 2, 0));
    }

    private static void replyNeedsNote(Check check) {
        Edges.needsRight(check, "reply", 2, (x, user) -> x.reply(user, 0, 0));
        Marginalia x = noted(2);
        x.setRight(OWNER, NOTER, 1);
        check.denied(x, "the author of the head with READ", () -> x.reply(NOTER, 0, 0));
    }

    private static void replyAuthor(Check check) {
        for (int user = 0; user < 6; user++) {
            Marginalia x = Edges.owners(6);
            x.reply(user, 0, 0);
            check.same("author", user, x.ofNote(1, 0));
            check.same("the author of the head", 0, x.ofNote(0, 0));
        }
    }

    private static void replyUnsettles(Check check) {
        Marginalia x = Edges.heads(2);
        x.settle(OWNER, 0, true);
        x.settle(OWNER, 1, true);
        x.reply(OWNER, 0, 0);
        check.same("by a reply to the head", 0, x.ofNote(0, 8));
        check.same("the other thread", 1, x.ofNote(1, 8));
        x.settle(OWNER, 0, true);
        x.reply(OWNER, 2, 0);
        check.same("by a reply to a reply", 0, x.ofNote(0, 8));
        x.reply(OWNER, 2, 0);
        check.same("not settled stays so", 0, x.ofNote(0, 8));
    }

    private static void replyByNoUser(Check check) {
        Edges.noSuchUser(check, "reply", (x, user) -> x.reply(user, 0, 0));
    }

    private static void replyToNoNote(Check check) {
        Edges.noSuchNote(check, "reply", 59, (x, note) -> x.reply(OWNER, note, 0));
    }

    private static void replyToGone(Check check) {
        Edges.goneNote(check, "reply", (x, note) -> x.reply(OWNER, note, 0));
    }

    private static void replyContent(Check check) {
        Edges.range(check, "reply of content", () -> noted(2), 0, 999, Edges.UNFIT,
            (x, content) -> x.reply(OWNER, 0, content));
        Marginalia x = noted(2);
        x.reply(OWNER, 0, 0);
        x.reply(OWNER, 0, 999);
        check.same("the least", 0, x.ofNote(1, 3));
        check.same("the most", 999, x.ofNote(2, 3));
    }

    private static void replyNeedsSight(Check check) {
        Edges.needsSight(check, "reply", (x, user) -> x.reply(user, 0, 0));
        Marginalia x = noted(0);
        x.reply(OWNER, 0, 0);
        check.denied(x, "to a reply that is not seen", () -> x.reply(EDITOR, 1, 0));
        check.same("to a reply in a thread of one's own", 2, x.reply(NOTER, 1, 0));
    }

    private static void replyToEmpty(Check check) {
        Marginalia x = noted(2);
        x.reply(OWNER, 0, 0);
        x.reply(OWNER, 1, 0);
        x.remove(OWNER, 0);
        check.denied(x, "to an empty head", () -> x.reply(OWNER, 0, 0));
        check.same("to a reply to it", 3, x.reply(OWNER, 1, 0));
        x.remove(OWNER, 1);
        check.denied(x, "to an empty reply", () -> x.reply(OWNER, 1, 0));
    }

    private static void replyBeyond60(Check check) {
        Marginalia x = Edges.heads(59);
        check.same("the 60th", 59, x.reply(OWNER, 0, 0));
        check.denied(x, "the 61st", () -> x.reply(OWNER, 0, 0));
        check.same("no reply by that", 1, x.ofNote(0, 7));
    }

    private static void proposalInPlace(Check check) {
        Marginalia x = noted(2);
        check.same("none ahead", -1, x.ofNote(0, 10));
        x.propose(OWNER, 0, 40, 1);
        check.same("40", 40, x.ofNote(0, 10));
        x.propose(NOTER, 0, 0, 2);
        check.same("none of signs", 0, x.ofNote(0, 10));
        x.propose(NOTER, 0, 2, 9);
        x.take(OWNER, 0);
        check.same("only the last one is taken", 25, x.length());
        check.same("its first sign", 9, x.sign(3, 3));
    }

    private static void proposeNeedsNote(Check check) {
        Edges.needsRight(check, "propose", 2, (x, user) -> x.propose(user, 0, 1, 0));
        Marginalia x = noted(2);
        x.setRight(OWNER, NOTER, 1);
        check.denied(x, "the author of the head with READ", () -> x.propose(NOTER, 0, 1, 0));
    }

    private static void proposeReturns(Check check) {
        Marginalia x = Edges.heads(60);
        for (int note : new int[] {0, 1, 59}) {
            check.same("propose", note, x.propose(OWNER, note, 3, 4));
        }
    }

    private static void proposeByNoUser(Check check) {
        Edges.noSuchUser(check, "propose", (x, user) -> x.propose(user, 0, 1, 0));
    }

    private static void proposeForNoNote(Check check) {
        Edges.noSuchNote(check, "propose", 60, (x, note) -> x.propose(OWNER, note, 1, 0));
    }

    private static void proposeForGone(Check check) {
        Edges.goneNote(check, "propose", (x, note) -> x.propose(OWNER, note, 1, 0));
    }

    private static void proposeForReply(Check check) {
        Marginalia x = noted(2);
        x.reply(OWNER, 0, 0);
        x.reply(OWNER, 1, 0);
        check.unfit(x, "for a reply", () -> x.propose(OWNER, 1, 1, 0));
        check.unfit(x, "for a reply to a reply", () -> x.propose(OWNER, 2, 1, 0));
        check.same("the head has none", -1, x.ofNote(0, 10));
    }

    private static void proposeMany(Check check) {
        Edges.range(check, "propose", () -> noted(2), 0, 40, Edges.UNFIT, (x, many) -> x.propose(OWNER, 0, many, 0));
    }

    private static void proposeSign(Check check) {
        for (int many : new int[] {0, 1, 40}) {
            Edges.range(check, "propose " + many + " from", () -> noted(2), 0, 25, Edges.UNFIT,
                (x, sign) -> x.propose(OWNER, 0, many, sign));
        }
    }

    private static void proposeNeedsSight(Check check) {
        Edges.needsSight(check, "propose", (x, user) -> x.propose(user, 0, 1, 0));
    }

    private static void proposeForEmpty(Check check) {
        Marginalia x = noted(2);
        x.reply(OWNER, 0, 0);
        check.allowed("ahead of that", () -> x.propose(OWNER, 0, 1, 0));
        x.remove(OWNER, 0);
        check.denied(x, "for an empty head", () -> x.propose(OWNER, 0, 1, 0));
        check.denied(x, "by its author", () -> x.propose(NOTER, 0, 1, 0));
    }
}
