/** What one asks (promises 17, 19, 20, 23 to 26 and 30): a test for each sentence that names an edge. */
public final class EdgesOfAskingTest {
    private static final int OWNER = Edges.OWNER;
    private static final int EDITOR = Edges.EDITOR;
    private static final int NOTER = Edges.NOTER;
    private static final int READER = Edges.READER;
    private static final int NOBODY = Edges.NOBODY;

    static void list(Sentences of) {
        of.add("17: 0 USERS", EdgesOfAskingTest::manyUsers);
        of.add("17: 1 NOTES that are not GONE", EdgesOfAskingTest::manyNotes);
        of.add("17: 2 THREADS with a NOTE that is not GONE", EdgesOfAskingTest::manyThreads);
        of.add("17: 3 those of these THREADS that are not SETTLED", EdgesOfAskingTest::manyNotSettled);
        of.add("17: 4 those, SETTLED or not, whose ANCHOR is LOST", EdgesOfAskingTest::manyLost);
        of.add("17: what is not 0 to 4", EdgesOfAskingTest::manyWhat);
        of.add("19: 0 its AUTHOR", EdgesOfAskingTest::factAuthor);
        of.add("19: 1 its PARENT (-1 of a HEAD)", EdgesOfAskingTest::factParent);
        of.add("19: 2 its HEAD (of a HEAD itself)", EdgesOfAskingTest::factHead);
        of.add("19: 3 its CONTENT (-1, if it is EMPTY)", EdgesOfAskingTest::factContent);
        of.add("19: 4 where the ANCHOR of its HEAD begins", EdgesOfAskingTest::factBegin);
        of.add("19: 5 ahead of which place that ends", EdgesOfAskingTest::factEnd);
        of.add("Terms: the DEPTH: 0 of a HEAD, 1 more than that of its PARENT", EdgesOfAskingTest::factDepth);
        of.add("19: 7 how many REPLIES to it are not GONE", EdgesOfAskingTest::factReplies);
        of.add("19: 8 1 if its THREAD is SETTLED, otherwise 0", EdgesOfAskingTest::factSettled);
        of.add("19: 9 the VIEW of that", EdgesOfAskingTest::factView);
        of.add("19: 10 how many SIGNS the PROPOSAL has (-1 without one)", EdgesOfAskingTest::factProposal);
        of.add("19: there is no such NOTE", EdgesOfAskingTest::factOfNoNote);
        of.add("19: or it is GONE", EdgesOfAskingTest::factOfGone);
        of.add("19: what is not 0 to 10", EdgesOfAskingTest::factWhat);
        of.add("20: a place in the QUOTE of its HEAD, from 0", EdgesOfAskingTest::quoteOfHead);
        of.add("20: -1 if there is none", EdgesOfAskingTest::quoteWhereNone);
        of.add("20: there is no such NOTE", EdgesOfAskingTest::quoteOfNoNote);
        of.add("20: or it is GONE", EdgesOfAskingTest::quoteOfGone);
        of.add("23: THREADS the USER SEES", EdgesOfAskingTest::overSeen);
        of.add("23: SETTLED ones, too", EdgesOfAskingTest::overSettled);
        of.add("23: whose ANCHOR has the SIGN there", EdgesOfAskingTest::overSign);
        of.add("23: 0 beyond the TEXT", EdgesOfAskingTest::overBeyond);
        of.add("23: there is no such USER", EdgesOfAskingTest::overByNoUser);
        of.add("26: NOTES that are GONE left out", EdgesOfAskingTest::meanWithoutGone);
        of.add("26: THREADS that have one that is not GONE", EdgesOfAskingTest::meanOfThreads);
        of.add("26: not cut", EdgesOfAskingTest::meanNotCut);
        of.add("26: 0 without any", EdgesOfAskingTest::meanWithoutAny);
        EdgesOfExportsTest.list(of);
    }

    public static void main(String[] args) {
        Sentences of = new Sentences();
        list(of);
        of.finish();
    }

    private static void manyUsers(Check check) {
        Marginalia x = new Marginalia();
        check.same("none", 0, x.many(0));
        x.user(0);
        check.same("one with no right", 1, x.many(0));
        check.same("all", 6, Edges.page(0).many(0));
    }

    private static void manyNotes(Check check) {
        Marginalia x = Edges.page(26);
        check.same("none", 0, x.many(1));
        x.note(OWNER, 3, 6, 0, 0);
        x.reply(OWNER, 0, 0);
        x.reply(OWNER, 1, 0);
        check.same("a head and two replies", 3, x.many(1));
        x.remove(OWNER, 1);
        check.same("one of them empty", 3, x.many(1));
        x.remove(OWNER, 2);
        check.same("two of them gone", 1, x.many(1));
        x.remove(OWNER, 0);
        check.same("all gone", 0, x.many(1));
        check.same("60", 60, Edges.heads(60).many(1));
    }

    private static void manyThreads(Check check) {
        Marginalia x = Edges.heads(2);
        x.reply(OWNER, 0, 0);
        check.same("two", 2, x.many(2));
        x.settle(OWNER, 0, true);
        x.remove(OWNER, 0);
        check.same("a head empty, settled", 2, x.many(2));
        x.remove(OWNER, 1);
        check.same("a head gone", 1, x.many(2));
        x.remove(OWNER, 2);
        check.same("all gone", 0, x.many(2));
        check.same("none", 0, Edges.page(26).many(2));
        check.same("60", 60, Edges.heads(60).many(2));
    }

    private static void manyNotSettled(Check check) {
        Marginalia x = Edges.heads(3);
        x.reply(OWNER, 0, 0);
        check.same("three", 3, x.many(3));
        x.settle(OWNER, 1, true);
        check.same("one settled", 2, x.many(3));
        x.remove(OWNER, 0);
        check.same("an empty head", 2, x.many(3));
        x.remove(OWNER, 2);
        check.same("one gone", 1, x.many(3));
        x.settle(OWNER, 3, true);
        check.same("all settled", 0, x.many(3));
        check.same("two are left", 2, x.many(2));
    }

    private static void manyLost(Check check) {
        Marginalia x = Edges.heads(3);
        x.note(OWNER, 2, 7, 2, 0);
        x.reply(OWNER, 0, 0);
        x.settle(OWNER, 1, true);
        check.same("none", 0, x.many(4));
        x.delete(OWNER, 3, 3);
        check.same("three, one settled", 3, x.many(4));
        x.remove(OWNER, 0);
        check.same("an empty head", 3, x.many(4));
        x.remove(OWNER, 1);
        check.same("one gone", 2, x.many(4));
        x.insert(OWNER, 0, 3, 3);
        x.heal();
        check.same("all healed", 0, x.many(4));
    }

    private static void manyWhat(Check check) {
        Edges.range(check, "many", () -> Edges.heads(1), 0, 4, Edges.UNFIT, (x, what) -> x.many(what));
    }

    /** Heads 0 and 1; 2 and 3 are replies to 1, 4 to 2, 5 to 4; 2 is empty. */
    private static Marginalia answered() {
        Marginalia x = Edges.page(26);
        x.note(OWNER, 3, 6, 2, 100);
        x.note(NOTER, 10, 14, 1, 101);
        x.reply(EDITOR, 1, 102);
        x.reply(OWNER, 1, 103);
        x.reply(NOTER, 2, 104);
        x.reply(EDITOR, 4, 105);
        x.remove(EDITOR, 2);
        return x;
    }

    private static void facts(Check check, Marginalia x, int what, int... due) {
        for (int note = 0; note < due.length; note++) {
            check.same("ofNote(" + note + ", " + what + ")", due[note], x.ofNote(note, what));
        }
    }

    private static void factAuthor(Check check) {
        facts(check, answered(), 0, OWNER, NOTER, EDITOR, OWNER, NOTER, EDITOR);
    }

    private static void factParent(Check check) {
        facts(check, answered(), 1, -1, -1, 1, 1, 2, 4);
    }

    private static void factHead(Check check) {
        facts(check, answered(), 2, 0, 1, 1, 1, 1, 1);
    }

    private static void factContent(Check check) {
        facts(check, answered(), 3, 100, 101, -1, 103, 104, 105);
    }

    private static void factBegin(Check check) {
        Marginalia x = answered();
        facts(check, x, 4, 3, 10, 10, 10, 10, 10);
        x.insert(OWNER, 10, 1, 0);
        facts(check, x, 4, 3, 11, 11, 11, 11, 11);
        x.delete(OWNER, 0, 27);
        facts(check, x, 4, 0, 0, 0, 0, 0, 0);
    }

    private static void factEnd(Check check) {
        Marginalia x = answered();
        facts(check, x, 5, 6, 14, 14, 14, 14, 14);
        x.insert(OWNER, 13, 1, 0);
        facts(check, x, 5, 6, 15, 15, 15, 15, 15);
        x.delete(OWNER, 0, 27);
        facts(check, x, 5, 0, 0, 0, 0, 0, 0);
    }

    private static void factDepth(Check check) {
        facts(check, answered(), 6, 0, 0, 1, 1, 2, 3);
        Marginalia x = Edges.page(26);
        x.note(OWNER, 3, 6, 2, 0);
        for (int note = 1; note < 60; note++) {
            x.reply(OWNER, note - 1, 0);
            check.same("depth", note, x.ofNote(note, 6));
        }
    }

    private static void factReplies(Check check) {
        Marginalia x = answered();
        facts(check, x, 7, 0, 2, 1, 0, 1, 0);
        x.remove(OWNER, 3);
        facts(check, x, 7, 0, 1, 1);
        x.remove(NOTER, 4);
        facts(check, x, 7, 0, 1, 1);
        x.remove(EDITOR, 5);
        facts(check, x, 7, 0, 0);
        x.reply(OWNER, 0, 0);
        facts(check, x, 7, 1, 0);
    }

    private static void factSettled(Check check) {
        Marginalia x = answered();
        facts(check, x, 8, 0, 0, 0, 0, 0, 0);
        x.settle(OWNER, 1, true);
        facts(check, x, 8, 0, 1, 1, 1, 1, 1);
        x.settle(OWNER, 0, true);
        x.settle(OWNER, 5, false);
        facts(check, x, 8, 1, 0, 0, 0, 0, 0);
    }

    private static void factView(Check check) {
        facts(check, answered(), 9, 2, 1, 1, 1, 1, 1);
        Marginalia x = Edges.page(26);
        x.note(OWNER, 3, 6, 0, 0);
        facts(check, x, 9, 0);
    }

    private static void factProposal(Check check) {
        Marginalia x = answered();
        facts(check, x, 10, -1, -1, -1, -1, -1, -1);
        x.propose(OWNER, 1, 40, 0);
        facts(check, x, 10, -1, 40, 40, 40, 40, 40);
        x.propose(OWNER, 0, 0, 0);
        facts(check, x, 10, 0, 40, 40, 40, 40, 40);
        x.take(OWNER, 0);
        x.take(OWNER, 1);
        facts(check, x, 10, -1, -1, -1, -1, -1, -1);
    }

    private static void factOfNoNote(Check check) {
        for (int what : new int[] {0, 3, 10}) {
            Edges.noSuchNote(check, "ofNote " + what, 60, (x, note) -> x.ofNote(note, what));
        }
    }

    private static void factOfGone(Check check) {
        for (int what = 0; what <= 10; what++) {
            int asked = what;
            Edges.goneNote(check, "ofNote " + what, (x, note) -> x.ofNote(note, asked));
        }
    }

    private static void factWhat(Check check) {
        Edges.range(check, "ofNote what", () -> Edges.heads(1), 0, 10, Edges.UNFIT, (x, what) -> x.ofNote(0, what));
    }

    private static void quoteOfHead(Check check) {
        Marginalia x = answered();
        for (int note = 1; note < 6; note++) {
            for (int place = 0; place < 4; place++) {
                check.same("quote(" + note + ", " + place + ")", 10 + place, x.quote(note, place));
            }
        }
        check.same("of the other head", 3, x.quote(0, 0));
    }

    private static void quoteWhereNone(Check check) {
        Marginalia x = answered();
        for (int note = 1; note < 6; note++) {
            for (int place : new int[] {4, 5, 11, 12, -1, Edges.MIN, Edges.MAX}) {
                check.same("quote(" + note + ", " + place + ")", -1, x.quote(note, place));
            }
        }
        check.same("of the other head", -1, x.quote(0, 3));
        x.note(OWNER, 0, 26, 2, 0);
        check.same("the twelfth", 11, x.quote(6, 11));
        check.same("a thirteenth", -1, x.quote(6, 12));
    }

    private static void quoteOfNoNote(Check check) {
        Edges.noSuchNote(check, "quote", 60, (x, note) -> x.quote(note, 0));
    }

    private static void quoteOfGone(Check check) {
        Edges.goneNote(check, "quote", (x, note) -> x.quote(note, 0));
    }

    private static void overSeen(Check check) {
        Marginalia x = Edges.page(26);
        for (int view = 0; view <= 2; view++) {
            x.note(NOTER, 3, 6, view, 0);
        }
        int[] due = {3, 2, 3, 1, 0, 2};
        for (int user = 0; user < 6; user++) {
            check.same("over(" + user + ", 4)", due[user], x.over(user, 4));
        }
        x.setRight(OWNER, NOTER, 1);
        check.same("their author with READ", 3, x.over(NOTER, 4));
        x.setRight(OWNER, NOTER, 0);
        check.same("their author with none", 0, x.over(NOTER, 4));
        x.remove(OWNER, 2);
        check.same("a gone one", 0, x.over(READER, 4));
        x.reply(OWNER, 0, 0);
        x.reply(OWNER, 0, 0);
        x.remove(OWNER, 0);
        check.same("threads, not notes, an empty head too", 2, x.over(OWNER, 4));
    }

    private static void overSettled(Check check) {
        Marginalia x = Edges.heads(2);
        x.settle(OWNER, 0, true);
        check.same("one settled", 2, x.over(READER, 4));
        x.settle(OWNER, 1, true);
        check.same("both settled", 2, x.over(READER, 4));
    }

    private static void overSign(Check check) {
        Marginalia x = Edges.page(26);
        x.note(OWNER, 3, 6, 2, 0);
        x.note(OWNER, 5, 6, 2, 0);
        x.note(OWNER, 0, 1, 2, 0);
        x.note(OWNER, 25, 26, 2, 0);
        int[] due = {1, 0, 0, 1, 1, 2, 0};
        for (int place = 0; place < due.length; place++) {
            check.same("over(0, " + place + ")", due[place], x.over(OWNER, place));
        }
        check.same("ahead of the last sign", 0, x.over(OWNER, 24));
        check.same("the last sign", 1, x.over(OWNER, 25));
        x.delete(OWNER, 5, 1);
        check.same("where one is lost", 0, x.over(OWNER, 5));
        check.same("ahead of the lost one", 1, x.over(OWNER, 4));
    }

    private static void overBeyond(Check check) {
        Marginalia x = Edges.page(26);
        x.note(OWNER, 0, 26, 2, 0);
        for (int place : new int[] {26, 27, 200, -1, Edges.MIN, Edges.MAX}) {
            check.same("over(0, " + place + ")", 0, x.over(OWNER, place));
        }
        check.same("the last sign", 1, x.over(OWNER, 25));
        x.delete(OWNER, 0, 26);
        check.same("in no text", 0, x.over(OWNER, 0));
        Marginalia full = Edges.page(200);
        full.note(OWNER, 199, 200, 2, 0);
        check.same("the last of 200", 1, full.over(OWNER, 199));
        check.same("beyond 200", 0, full.over(OWNER, 200));
    }

    private static void overByNoUser(Check check) {
        Edges.noSuchUser(check, "over", (x, user) -> x.over(user, 4));
        Edges.noSuchUser(check, "over beyond the text", (x, user) -> x.over(user, 99));
    }

    private static void meanWithoutGone(Check check) {
        Marginalia x = Edges.heads(1);
        x.reply(OWNER, 0, 0);
        x.reply(OWNER, 0, 0);
        check.same("three in one", 3.0, x.meanThread());
        x.remove(OWNER, 1);
        check.same("one gone", 2.0, x.meanThread());
        x.remove(OWNER, 0);
        check.same("one empty", 2.0, x.meanThread());
    }

    private static void meanOfThreads(Check check) {
        Marginalia x = Edges.heads(4);
        x.reply(OWNER, 0, 0);
        x.reply(OWNER, 0, 0);
        check.same("six in four", 1.5, x.meanThread());
        x.remove(OWNER, 3);
        x.remove(OWNER, 1);
        check.same("four in two", 2.0, x.meanThread());
        x.settle(OWNER, 2, true);
        x.delete(OWNER, 3, 3);
        check.same("settled and lost ones, too", 2.0, x.meanThread());
        x.remove(OWNER, 0);
        check.same("one with an empty head, too", 2.0, x.meanThread());
    }

    private static void meanNotCut(Check check) {
        Marginalia x = Edges.heads(3);
        x.reply(OWNER, 0, 0);
        check.same("four in three", 4.0 / 3.0, x.meanThread());
        x.reply(OWNER, 0, 0);
        check.same("five in three", 5.0 / 3.0, x.meanThread());
        Marginalia y = Edges.heads(59);
        y.reply(OWNER, 0, 0);
        check.same("60 in 59", 60.0 / 59.0, y.meanThread());
    }

    private static void meanWithoutAny(Check check) {
        check.same("of a new one", 0.0, new Marginalia().meanThread());
        Marginalia x = Edges.heads(1);
        x.remove(OWNER, 0);
        check.same("all gone", 0.0, x.meanThread());
    }
}
