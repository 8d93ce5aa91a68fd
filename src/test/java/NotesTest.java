/** Promises 10 to 16: notes, replies, and what is done with them. */
public final class NotesTest {
    private static final int OWNER = 0;
    private static final int EDITOR = 1;
    private static final int NOTER = 2;
    private static final int READER = 3;
    private static final int NOBODY = 4;
    private static final int OTHER_NOTER = 5;
    private static final Check CHECK = new Check();

    public static void main(String[] args) {
        promise10Note();
        promise10Refusals();
        promise10Limit();
        promise11Reply();
        promise11Refusals();
        promise11Limit();
        promise12Settle();
        promise12Refusals();
        promise13Remove();
        promise13Chain();
        promise13Refusals();
        promise14Propose();
        promise14Refusals();
        promise15Take();
        promise15MovesOtherAnchors();
        promise15Refusals();
        promise15Limits();
        promise16Heal();
        promise16Nearest();
        promise16GoneAndEmpty();
        CHECK.finish();
    }

    /** Six users, one for each right and a second with NOTE, and a text of 0 to 25, twice. */
    private static Marginalia page() {
        Marginalia x = new Marginalia();
        x.user(4);
        x.user(3);
        x.user(2);
        x.user(1);
        x.user(0);
        x.user(2);
        x.insert(OWNER, 0, 26, 0);
        x.insert(OWNER, 26, 26, 0);
        return x;
    }

    private static void facts(String what, Marginalia x, int note, int... facts) {
        for (int fact = 0; fact < facts.length; fact++) {
            CHECK.same(what + ": ofNote(" + note + ", " + fact + ")", facts[fact], x.ofNote(note, fact));
        }
    }

    private static void anchor(String what, Marginalia x, int note, int from, int to) {
        CHECK.same(what + ": from of " + note, from, x.ofNote(note, 4));
        CHECK.same(what + ": to of " + note, to, x.ofNote(note, 5));
    }

    private static void promise10Note() {
        Marginalia x = page();
        CHECK.same("the first note", 0, x.note(NOTER, 3, 5, 1, 999));
        facts("the first", x, 0, NOTER, -1, 0, 999, 3, 5, 0, 0, 0, 1, -1);
        CHECK.same("a note over all", 1, x.note(OWNER, 0, 52, 0, 0));
        facts("over all", x, 1, OWNER, -1, 1, 0, 0, 52, 0, 0, 0, 0, -1);
        CHECK.same("a note on the last sign", 2, x.note(EDITOR, 51, 52, 2, 7));
        CHECK.same("its quote", 25, x.quote(2, 0));
        x.reply(OWNER, 0, 1);
        CHECK.same("numbers go on behind a reply", 4, x.note(OWNER, 3, 5, 2, 0));
        CHECK.same("many(3)", 4, x.many(3));
    }

    private static void promise10Refusals() {
        Marginalia x = page();
        CHECK.missing(x, "by no user", () -> x.note(6, 0, 1, 0, 0));
        CHECK.missing(x, "by no user, with view 3", () -> x.note(-1, 0, 1, 3, 0));
        CHECK.unfit(x, "from -1", () -> x.note(OWNER, -1, 1, 0, 0));
        CHECK.unfit(x, "from MIN", () -> x.note(OWNER, Integer.MIN_VALUE, 1, 0, 0));
        CHECK.unfit(x, "no signs", () -> x.note(OWNER, 5, 5, 0, 0));
        CHECK.unfit(x, "to ahead of from", () -> x.note(OWNER, 5, 4, 0, 0));
        CHECK.unfit(x, "to beyond the text", () -> x.note(OWNER, 5, 53, 0, 0));
        CHECK.unfit(x, "to MAX", () -> x.note(OWNER, 5, Integer.MAX_VALUE, 0, 0));
        CHECK.unfit(x, "view -1", () -> x.note(OWNER, 0, 1, -1, 0));
        CHECK.unfit(x, "view 3", () -> x.note(OWNER, 0, 1, 3, 0));
        CHECK.unfit(x, "content -1", () -> x.note(OWNER, 0, 1, 0, -1));
        CHECK.unfit(x, "content 1000", () -> x.note(OWNER, 0, 1, 0, 1000));
        CHECK.unfit(x, "content 1000 by a reader", () -> x.note(READER, 0, 1, 0, 1000));
        CHECK.denied(x, "by a reader", () -> x.note(READER, 0, 1, 0, 0));
        CHECK.denied(x, "by nobody", () -> x.note(NOBODY, 0, 1, 2, 0));
    }

    private static void promise10Limit() {
        Marginalia x = page();
        for (int note = 0; note < 60; note++) {
            x.note(NOTER, 0, 1, 2, note);
        }
        CHECK.same("60 notes", 60, x.many(1));
        CHECK.denied(x, "a 61st note", () -> x.note(NOTER, 0, 1, 2, 0));
        CHECK.denied(x, "a reply as the 61st", () -> x.reply(NOTER, 0, 0));
        CHECK.unfit(x, "a 61st note with view 3", () -> x.note(NOTER, 0, 1, 3, 0));
        x.remove(NOTER, 5);
        CHECK.denied(x, "60 ever, gone ones too", () -> x.note(NOTER, 0, 1, 2, 0));
    }

    private static void promise11Reply() {
        Marginalia x = page();
        x.note(NOTER, 3, 5, 2, 10);
        CHECK.same("a reply", 1, x.reply(OWNER, 0, 11));
        facts("a reply", x, 1, OWNER, 0, 0, 11, 3, 5, 1, 0, 0, 2, -1);
        CHECK.same("a reply to a reply", 2, x.reply(OTHER_NOTER, 1, 999));
        facts("a reply to a reply", x, 2, OTHER_NOTER, 1, 0, 999, 3, 5, 2, 0, 0, 2, -1);
        x.settle(OWNER, 0, true);
        CHECK.same("settled", 1, x.ofNote(0, 8));
        x.reply(NOTER, 2, 0);
        CHECK.same("not settled any more", 0, x.ofNote(0, 8));
        CHECK.same("replies to 0", 1, x.ofNote(0, 7));
        CHECK.same("replies to 2", 1, x.ofNote(2, 7));
    }

    private static void promise11Refusals() {
        Marginalia x = page();
        x.note(NOTER, 3, 5, 0, 10);
        x.note(NOTER, 3, 5, 2, 10);
        x.note(OWNER, 3, 5, 2, 10);
        x.reply(OWNER, 0, 1);
        x.remove(NOTER, 0);
        x.remove(OWNER, 2);
        CHECK.missing(x, "by no user", () -> x.reply(6, 1, 0));
        CHECK.missing(x, "no such note", () -> x.reply(OWNER, 4, 0));
        CHECK.missing(x, "note -1", () -> x.reply(OWNER, -1, 0));
        CHECK.missing(x, "a note that is gone", () -> x.reply(OWNER, 2, 0));
        CHECK.missing(x, "a note that is gone, content 1000", () -> x.reply(OWNER, 2, 1000));
        CHECK.unfit(x, "content 1000", () -> x.reply(OWNER, 1, 1000));
        CHECK.unfit(x, "content -1 by a reader", () -> x.reply(READER, 1, -1));
        CHECK.denied(x, "to an empty one", () -> x.reply(OWNER, 0, 0));
        CHECK.denied(x, "by a reader", () -> x.reply(READER, 1, 0));
        CHECK.denied(x, "by one who does not see it", () -> x.reply(EDITOR, 3, 0));
        CHECK.same("by the author of the head", 4, x.reply(NOTER, 3, 0));
        x.settle(OWNER, 1, true);
        CHECK.denied(x, "a refused one leaves it settled", () -> x.reply(READER, 1, 0));
    }

    private static void promise11Limit() {
        Marginalia x = page();
        x.note(NOTER, 0, 1, 2, 0);
        for (int note = 1; note < 60; note++) {
            x.reply(NOTER, note - 1, note);
        }
        CHECK.same("depth of the last", 59, x.ofNote(59, 6));
        CHECK.same("the last in the order", 59, x.thread(0, 59));
        CHECK.same("one behind the other", 60, x.export(READER, true));
        CHECK.denied(x, "a 61st", () -> x.reply(NOTER, 59, 0));
        CHECK.denied(x, "a note as the 61st", () -> x.note(NOTER, 0, 1, 2, 0));
        for (int note = 0; note < 59; note++) {
            CHECK.same("remove(" + note + ")", 0, x.remove(NOTER, note));
        }
        CHECK.same("the last takes all along", 60, x.remove(NOTER, 59));
        CHECK.same("nothing is left", 0, x.many(1));
    }

    private static void promise12Settle() {
        Marginalia x = page();
        x.note(NOTER, 3, 5, 2, 10);
        x.reply(OTHER_NOTER, 0, 1);
        CHECK.same("settle by its author", false, x.settle(NOTER, 0, true));
        CHECK.same("settled", 1, x.ofNote(1, 8));
        CHECK.same("settle again, by an editor", true, x.settle(EDITOR, 1, true));
        CHECK.same("not any more, by an owner", true, x.settle(OWNER, 1, false));
        CHECK.same("not settled", 0, x.ofNote(0, 8));
        CHECK.same("it was not", false, x.settle(OWNER, 0, false));
        x.setRight(OWNER, NOTER, 1);
        CHECK.same("the author with READ", false, x.settle(NOTER, 1, true));
        x.remove(OWNER, 0);
        CHECK.same("at an empty head", true, x.settle(EDITOR, 0, false));
    }

    private static void promise12Refusals() {
        Marginalia x = page();
        x.note(NOTER, 3, 5, 2, 10);
        x.reply(OTHER_NOTER, 0, 1);
        x.note(NOTER, 3, 5, 0, 10);
        x.note(NOTER, 3, 5, 0, 10);
        x.remove(NOTER, 3);
        CHECK.missing(x, "by no user", () -> x.settle(6, 0, true));
        CHECK.missing(x, "no such note", () -> x.settle(OWNER, 4, true));
        CHECK.missing(x, "a note that is gone", () -> x.settle(OWNER, 3, true));
        CHECK.denied(x, "by the author of a reply", () -> x.settle(OTHER_NOTER, 1, true));
        CHECK.denied(x, "by an editor who does not see it", () -> x.settle(EDITOR, 2, true));
        x.setRight(OWNER, NOTER, 0);
        CHECK.denied(x, "by an author who sees nothing", () -> x.settle(NOTER, 0, true));
    }

    private static void promise13Remove() {
        Marginalia x = page();
        x.note(NOTER, 3, 5, 2, 10);
        x.reply(OTHER_NOTER, 0, 1);
        x.reply(NOTER, 0, 2);
        CHECK.same("one with replies", 0, x.remove(NOTER, 0));
        facts("empty", x, 0, NOTER, -1, 0, -1, 3, 5, 0, 2, 0, 2, -1);
        CHECK.same("many(1)", 3, x.many(1));
        CHECK.same("a reply, by an owner", 1, x.remove(OWNER, 1));
        CHECK.same("replies left", 1, x.ofNote(0, 7));
        CHECK.missing(x, "ofNote of a gone one", () -> x.ofNote(1, 0));
        CHECK.same("the last reply", 2, x.remove(NOTER, 2));
        CHECK.same("many(1) then", 0, x.many(1));
        CHECK.same("many(2) then", 0, x.many(2));
        x.note(NOTER, 3, 5, 2, 10);
        CHECK.same("a head alone", 1, x.remove(NOTER, 3));
    }

    private static void promise13Chain() {
        Marginalia x = page();
        x.note(OWNER, 3, 5, 2, 10);
        x.reply(OWNER, 0, 1);
        x.reply(OWNER, 1, 2);
        x.reply(OWNER, 2, 3);
        x.reply(OWNER, 1, 4);
        CHECK.same("empty 2", 0, x.remove(OWNER, 2));
        CHECK.same("empty 1", 0, x.remove(OWNER, 1));
        CHECK.same("3 takes 2 along, 1 has 4 still", 2, x.remove(OWNER, 3));
        CHECK.same("1 is still there", -1, x.ofNote(1, 3));
        CHECK.same("4 takes 1 along, 0 is not empty", 2, x.remove(OWNER, 4));
        CHECK.same("0 is still there", 10, x.ofNote(0, 3));
        CHECK.same("0 has no reply any more", 0, x.ofNote(0, 7));
        CHECK.same("and goes at once", 1, x.remove(OWNER, 0));
    }

    private static void promise13Refusals() {
        Marginalia x = page();
        x.note(OWNER, 3, 5, 1, 10);
        x.reply(NOTER, 0, 1);
        x.reply(NOTER, 1, 1);
        x.remove(NOTER, 1);
        x.reply(NOTER, 0, 1);
        x.remove(NOTER, 3);
        CHECK.missing(x, "by no user", () -> x.remove(6, 0));
        CHECK.missing(x, "no such note", () -> x.remove(OWNER, 4));
        CHECK.missing(x, "a note that is gone", () -> x.remove(OWNER, 3));
        CHECK.denied(x, "an empty one", () -> x.remove(NOTER, 1));
        CHECK.denied(x, "an empty one, by an owner", () -> x.remove(OWNER, 1));
        CHECK.denied(x, "by another noter", () -> x.remove(OTHER_NOTER, 2));
        CHECK.denied(x, "by an editor", () -> x.remove(EDITOR, 2));
        x.setRight(OWNER, NOTER, 1);
        CHECK.denied(x, "by an author who does not see it any more", () -> x.remove(NOTER, 2));
        x.setRight(OWNER, NOTER, 2);
        CHECK.same("by an author who sees it again", 2, x.remove(NOTER, 2));
        x.note(NOTER, 3, 5, 0, 1);
        x.setRight(OWNER, NOTER, 1);
        CHECK.same("by the author of a head, with READ", 1, x.remove(NOTER, 4));
    }

    private static void promise14Propose() {
        Marginalia x = page();
        x.note(NOTER, 3, 5, 2, 10);
        CHECK.same("none yet", -1, x.ofNote(0, 10));
        CHECK.same("a proposal", 0, x.propose(OTHER_NOTER, 0, 40, 25));
        CHECK.same("its signs", 40, x.ofNote(0, 10));
        CHECK.same("one in its place", 0, x.propose(NOTER, 0, 0, 0));
        CHECK.same("no signs", 0, x.ofNote(0, 10));
        x.delete(OWNER, 3, 2);
        CHECK.same("for a lost one", 0, x.propose(NOTER, 0, 7, 0));
        x.settle(NOTER, 0, true);
        x.propose(NOTER, 0, 8, 0);
        CHECK.same("it stays settled", 1, x.ofNote(0, 8));
        x.note(NOTER, 3, 5, 2, 10);
        CHECK.same("the number of another head", 1, x.propose(NOTER, 1, 1, 1));
    }

    private static void promise14Refusals() {
        Marginalia x = page();
        x.note(NOTER, 3, 5, 2, 10);
        x.reply(NOTER, 0, 1);
        x.note(OWNER, 3, 5, 0, 10);
        x.note(OWNER, 3, 5, 2, 10);
        x.remove(OWNER, 3);
        CHECK.missing(x, "by no user", () -> x.propose(6, 0, 1, 0));
        CHECK.missing(x, "no such note", () -> x.propose(OWNER, 4, 1, 0));
        CHECK.missing(x, "a gone note, 41 signs", () -> x.propose(OWNER, 3, 41, 0));
        CHECK.unfit(x, "for a reply", () -> x.propose(OWNER, 1, 1, 0));
        CHECK.unfit(x, "many -1", () -> x.propose(OWNER, 0, -1, 0));
        CHECK.unfit(x, "many 41", () -> x.propose(OWNER, 0, 41, 0));
        CHECK.unfit(x, "sign -1", () -> x.propose(OWNER, 0, 1, -1));
        CHECK.unfit(x, "sign 26", () -> x.propose(OWNER, 0, 1, 26));
        CHECK.unfit(x, "sign 26 of no signs", () -> x.propose(OWNER, 0, 0, 26));
        CHECK.unfit(x, "for a reply, by a reader", () -> x.propose(READER, 1, 1, 0));
        CHECK.denied(x, "by a reader", () -> x.propose(READER, 0, 1, 0));
        CHECK.denied(x, "by one who does not see it", () -> x.propose(EDITOR, 2, 1, 0));
        x.remove(NOTER, 0);
        CHECK.denied(x, "for an empty head", () -> x.propose(NOTER, 0, 1, 0));
    }

    private static void promise15Take() {
        Marginalia x = page();
        x.note(NOTER, 3, 6, 2, 10);
        x.propose(NOTER, 0, 2, 25);
        CHECK.same("take", 51, x.take(EDITOR, 0));
        anchor("taken", x, 0, 3, 5);
        CHECK.same("sign ahead", 2, x.sign(4, 2));
        CHECK.same("first sign", 25, x.sign(4, 3));
        CHECK.same("second sign", 0, x.sign(4, 4));
        CHECK.same("sign behind", 6, x.sign(4, 5));
        CHECK.same("between the two edits", 6, x.sign(3, 3));
        CHECK.same("settled", 1, x.ofNote(0, 8));
        CHECK.same("no proposal any more", -1, x.ofNote(0, 10));
        CHECK.same("its quote stays", 3, x.quote(0, 0));
        CHECK.same("the old signs are deleted", -1, x.now(2, 3));
        CHECK.denied(x, "once more", () -> x.take(EDITOR, 0));
        x.reply(NOTER, 0, 0);
        x.propose(NOTER, 0, 0, 0);
        x.remove(NOTER, 0);
        CHECK.same("no signs, for an empty head", 49, x.take(EDITOR, 0));
        anchor("taken with no signs", x, 0, 3, 3);
        CHECK.same("lost then", 1, x.many(4));
    }

    private static void promise15MovesOtherAnchors() {
        Marginalia x = page();
        x.note(NOTER, 10, 20, 2, 0);
        x.note(NOTER, 12, 14, 2, 0);
        x.note(NOTER, 5, 12, 2, 0);
        x.note(NOTER, 15, 25, 2, 0);
        x.note(NOTER, 10, 20, 2, 0);
        x.note(NOTER, 5, 25, 2, 0);
        x.note(NOTER, 20, 22, 2, 0);
        x.note(NOTER, 8, 10, 2, 0);
        x.propose(NOTER, 0, 3, 0);
        x.take(OWNER, 0);
        anchor("itself", x, 0, 10, 13);
        anchor("inside", x, 1, 13, 13);
        anchor("over its begin", x, 2, 5, 10);
        anchor("over its end", x, 3, 13, 18);
        anchor("the same part", x, 4, 13, 13);
        anchor("around it", x, 5, 5, 18);
        anchor("behind it", x, 6, 13, 15);
        anchor("ahead of it", x, 7, 8, 10);
    }

    private static void promise15Refusals() {
        Marginalia x = page();
        x.note(NOTER, 3, 5, 2, 10);
        x.propose(NOTER, 0, 4, 0);
        x.reply(NOTER, 0, 1);
        x.note(OWNER, 3, 5, 0, 10);
        x.propose(OWNER, 2, 4, 0);
        x.note(OWNER, 3, 5, 2, 10);
        x.note(OWNER, 3, 5, 2, 10);
        x.propose(OWNER, 4, 4, 0);
        x.remove(OWNER, 4);
        CHECK.missing(x, "by no user", () -> x.take(6, 0));
        CHECK.missing(x, "no such note", () -> x.take(OWNER, 5));
        CHECK.missing(x, "a gone note", () -> x.take(OWNER, 4));
        CHECK.unfit(x, "of a reply", () -> x.take(OWNER, 1));
        CHECK.unfit(x, "of a reply, by a reader", () -> x.take(READER, 1));
        CHECK.denied(x, "by its author, with NOTE", () -> x.take(NOTER, 0));
        CHECK.denied(x, "by an editor who does not see it", () -> x.take(EDITOR, 2));
        CHECK.denied(x, "without a proposal", () -> x.take(OWNER, 3));
        x.delete(OWNER, 2, 4);
        CHECK.denied(x, "of a lost one", () -> x.take(OWNER, 0));
        CHECK.same("the proposal is still there", 4, x.ofNote(0, 10));
        x.heal();
        CHECK.same("after it is healed", 50, x.take(OWNER, 0));
    }

    private static void promise15Limits() {
        Marginalia x = page();
        for (int edit = 2; edit < 6; edit++) {
            x.insert(OWNER, 0, 37, 0);
        }
        x.note(NOTER, 0, 3, 2, 0);
        x.propose(NOTER, 0, 4, 0);
        CHECK.denied(x, "201 signs", () -> x.take(OWNER, 0));
        x.propose(NOTER, 0, 3, 0);
        CHECK.same("200 signs", 200, x.take(OWNER, 0));
        for (int edit = 8; edit < 59; edit++) {
            x.delete(OWNER, 199 - edit, 1);
        }
        x.propose(NOTER, 0, 1, 0);
        CHECK.denied(x, "61 edits", () -> x.take(OWNER, 0));
        x.propose(NOTER, 0, 0, 0);
        CHECK.same("60 edits", 146, x.take(OWNER, 0));
        CHECK.same("version", 60, x.version());
        x.note(NOTER, 0, 1, 2, 0);
        x.propose(NOTER, 1, 0, 0);
        CHECK.denied(x, "61 edits with no signs", () -> x.take(OWNER, 1));
    }

    private static void promise16Heal() {
        Marginalia x = page();
        x.note(NOTER, 3, 6, 2, 0);
        x.note(NOTER, 4, 20, 2, 0);
        x.note(NOTER, 25, 27, 2, 0);
        CHECK.same("none is lost", 0, x.heal());
        anchor("none is lost", x, 0, 3, 6);
        x.delete(OWNER, 2, 20);
        x.delete(OWNER, 5, 2);
        CHECK.same("all are lost", 3, x.many(4));
        CHECK.same("two find theirs", 2, x.heal());
        anchor("healed", x, 0, 7, 10);
        anchor("healed, over the first", x, 1, 8, 20);
        anchor("not healed", x, 2, 5, 5);
        CHECK.same("one is still lost", 1, x.many(4));
        CHECK.same("nothing more to heal", 0, x.heal());
    }

    private static void promise16Nearest() {
        Marginalia x = new Marginalia();
        x.user(4);
        x.insert(0, 0, 3, 7);
        x.insert(0, 3, 4, 0);
        x.insert(0, 7, 3, 7);
        x.insert(0, 10, 3, 1);
        x.insert(0, 13, 3, 7);
        x.note(0, 7, 10, 2, 0);
        x.delete(0, 7, 3);
        anchor("lost", x, 0, 7, 7);
        CHECK.same("the nearer one is behind", 1, x.heal());
        anchor("healed behind", x, 0, 10, 13);
        x.note(0, 3, 4, 2, 0);
        x.delete(0, 3, 1);
        x.insert(0, 2, 1, 0);
        x.insert(0, 6, 1, 0);
        anchor("lost between two", x, 1, 4, 4);
        CHECK.same("both as near", 1, x.heal());
        anchor("the smaller one", x, 1, 2, 3);
    }

    private static void promise16GoneAndEmpty() {
        Marginalia x = page();
        x.note(NOTER, 3, 6, 2, 0);
        x.note(NOTER, 3, 6, 2, 0);
        x.reply(NOTER, 1, 0);
        x.delete(OWNER, 3, 3);
        x.remove(NOTER, 0);
        x.remove(NOTER, 1);
        CHECK.same("an empty head, not a gone one", 1, x.heal());
        anchor("as long as the quote", x, 1, 26, 29);
        Marginalia y = page();
        y.note(NOTER, 0, 20, 2, 0);
        y.delete(OWNER, 0, 20);
        CHECK.same("a long one", 1, y.heal());
        anchor("12 signs at most", y, 0, 6, 18);
    }
}
