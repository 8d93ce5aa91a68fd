/** Promises 17 and 19 to 26: what one asks. */
public final class AskingTest {
    private static final int OWNER = 0;
    private static final int EDITOR = 1;
    private static final int NOTER = 2;
    private static final int READER = 3;
    private static final int NOBODY = 4;
    private static final Check CHECK = new Check();

    public static void main(String[] args) {
        promise17Many();
        promise19OfNote();
        promise20Quote();
        promise21Sees();
        promise21Refusals();
        promise22Thread();
        promise23Over();
        promise24Export();
        promise24OrderOfThreads();
        promise25Exported();
        promise26MeanThread();
        CHECK.finish();
    }

    /** Five users, one for each right, and a text of 0 to 25, twice. */
    private static Marginalia page() {
        Marginalia x = new Marginalia();
        x.user(4);
        x.user(3);
        x.user(2);
        x.user(1);
        x.user(0);
        x.insert(OWNER, 0, 26, 0);
        x.insert(OWNER, 26, 26, 0);
        return x;
    }

    private static void many(String what, Marginalia x, int... due) {
        for (int i = 0; i < due.length; i++) {
            CHECK.same(what + ": many(" + i + ")", due[i], x.many(i));
        }
    }

    private static void promise17Many() {
        Marginalia x = page();
        many("no notes", x, 5, 0, 0, 0, 0);
        x.note(NOTER, 3, 6, 0, 0);
        x.note(OWNER, 4, 5, 2, 0);
        x.note(OWNER, 4, 6, 2, 0);
        x.note(OWNER, 10, 16, 2, 0);
        x.reply(OWNER, 1, 0);
        x.reply(OWNER, 1, 0);
        many("four threads", x, 5, 6, 4, 4, 0);
        x.settle(OWNER, 1, true);
        x.settle(OWNER, 3, true);
        many("two settled", x, 5, 6, 4, 2, 0);
        x.delete(OWNER, 4, 2);
        many("two lost, one of them settled", x, 5, 6, 4, 2, 2);
        x.remove(OWNER, 1);
        many("one empty", x, 5, 6, 4, 2, 2);
        x.remove(OWNER, 2);
        many("a lost one gone", x, 5, 5, 3, 1, 1);
        x.remove(OWNER, 4);
        x.remove(OWNER, 5);
        many("an empty one gone", x, 5, 2, 2, 1, 0);
        CHECK.unfit(x, "many(-1)", () -> x.many(-1));
        CHECK.unfit(x, "many(5)", () -> x.many(5));
    }

    private static void promise19OfNote() {
        Marginalia x = page();
        x.note(NOTER, 3, 6, 1, 77);
        x.note(OWNER, 8, 9, 2, 5);
        x.reply(OWNER, 0, 78);
        x.reply(NOTER, 2, 79);
        x.reply(NOTER, 2, 80);
        x.propose(NOTER, 0, 9, 3);
        x.settle(OWNER, 0, true);
        x.remove(NOTER, 4);
        x.remove(OWNER, 2);
        int[][] due = {
            {NOTER, -1, 0, 77, 3, 6, 0, 1, 1, 1, 9},
            {OWNER, -1, 1, 5, 8, 9, 0, 0, 0, 2, -1},
            {OWNER, 0, 0, -1, 3, 6, 1, 1, 1, 1, 9},
            {NOTER, 2, 0, 79, 3, 6, 2, 0, 1, 1, 9},
        };
        for (int note = 0; note < due.length; note++) {
            for (int what = 0; what <= 10; what++) {
                CHECK.same("ofNote(" + note + ", " + what + ")", due[note][what], x.ofNote(note, what));
            }
        }
        CHECK.missing(x, "a gone one", () -> x.ofNote(4, 0));
        CHECK.missing(x, "a gone one, what 11", () -> x.ofNote(4, 11));
        CHECK.missing(x, "no such note", () -> x.ofNote(5, 0));
        CHECK.missing(x, "note -1", () -> x.ofNote(-1, 0));
        CHECK.unfit(x, "what 11", () -> x.ofNote(0, 11));
        CHECK.unfit(x, "what -1", () -> x.ofNote(0, -1));
    }

    private static void promise20Quote() {
        Marginalia x = page();
        x.note(NOTER, 24, 28, 2, 0);
        x.note(NOTER, 1, 14, 2, 0);
        x.reply(NOTER, 0, 0);
        x.insert(OWNER, 26, 1, 9);
        x.delete(OWNER, 0, 25);
        int[] due = {24, 25, 0, 1, -1};
        for (int place = 0; place < due.length; place++) {
            CHECK.same("quote(0, " + place + ")", due[place], x.quote(0, place));
            CHECK.same("quote(2, " + place + ")", due[place], x.quote(2, place));
        }
        CHECK.same("the twelfth", 12, x.quote(1, 11));
        CHECK.same("no thirteenth", -1, x.quote(1, 12));
        CHECK.same("quote(0, -1)", -1, x.quote(0, -1));
        CHECK.same("quote(0, MIN)", -1, x.quote(0, Integer.MIN_VALUE));
        CHECK.same("quote(0, MAX)", -1, x.quote(0, Integer.MAX_VALUE));
        x.remove(NOTER, 1);
        CHECK.missing(x, "of a gone one", () -> x.quote(1, 0));
        CHECK.missing(x, "no such note", () -> x.quote(3, 0));
        CHECK.missing(x, "note -1", () -> x.quote(-1, 0));
    }

    private static void promise21Sees() {
        Marginalia x = page();
        x.user(2);
        boolean[][] due = {
            {true, false, true, false, false, false},
            {true, true, true, false, false, true},
            {true, true, true, true, false, true},
        };
        for (int view = 0; view <= 2; view++) {
            x.note(NOTER, 3, 6, view, 0);
            x.reply(OWNER, 2 * view, 0);
            for (int user = 0; user < 6; user++) {
                CHECK.same("view " + view + ", user " + user, due[view][user], x.sees(user, 2 * view));
                CHECK.same("a reply to it, user " + user, due[view][user], x.sees(user, 2 * view + 1));
            }
        }
        x.remove(NOTER, 4);
        CHECK.same("an empty one", true, x.sees(READER, 4));
        x.setRight(OWNER, NOTER, 1);
        CHECK.same("its author, with READ", true, x.sees(NOTER, 0));
        x.setRight(OWNER, NOTER, 0);
        CHECK.same("its author, with none", false, x.sees(NOTER, 0));
        CHECK.same("its author, with none, view 2", false, x.sees(NOTER, 4));
    }

    private static void promise21Refusals() {
        Marginalia x = page();
        x.note(NOTER, 3, 6, 2, 0);
        x.note(NOTER, 3, 6, 2, 0);
        x.remove(NOTER, 1);
        CHECK.missing(x, "no such user", () -> x.sees(5, 0));
        CHECK.missing(x, "user -1", () -> x.sees(-1, 0));
        CHECK.missing(x, "no such note", () -> x.sees(0, 2));
        CHECK.missing(x, "note -1", () -> x.sees(0, -1));
        CHECK.missing(x, "a gone note", () -> x.sees(0, 1));
    }

    private static void order(String what, Marginalia x, int note, int... due) {
        for (int place = 0; place < due.length; place++) {
            CHECK.same(what + ": thread(" + note + ", " + place + ")", due[place], x.thread(note, place));
        }
        CHECK.same(what + ": behind all", -1, x.thread(note, due.length));
    }

    private static void promise22Thread() {
        Marginalia x = page();
        x.note(OWNER, 3, 6, 2, 0);
        x.note(OWNER, 3, 6, 2, 0);
        x.reply(OWNER, 0, 0);
        x.reply(OWNER, 0, 0);
        x.reply(OWNER, 2, 0);
        x.reply(OWNER, 1, 0);
        x.reply(OWNER, 4, 0);
        x.reply(OWNER, 2, 0);
        x.reply(OWNER, 0, 0);
        x.reply(OWNER, 3, 0);
        order("from its head", x, 0, 0, 2, 4, 6, 7, 3, 9, 8);
        order("from a reply", x, 9, 0, 2, 4, 6, 7, 3, 9, 8);
        order("the other one", x, 5, 1, 5);
        x.remove(OWNER, 4);
        order("an empty one stays", x, 0, 0, 2, 4, 6, 7, 3, 9, 8);
        x.remove(OWNER, 6);
        order("gone ones are left out", x, 0, 0, 2, 7, 3, 9, 8);
        x.reply(OWNER, 2, 0);
        order("a reply behind gone ones", x, 0, 0, 2, 7, 10, 3, 9, 8);
        CHECK.same("place -1", -1, x.thread(0, -1));
        CHECK.same("place MIN", -1, x.thread(0, Integer.MIN_VALUE));
        CHECK.same("place MAX", -1, x.thread(0, Integer.MAX_VALUE));
        CHECK.missing(x, "of a gone one", () -> x.thread(6, 0));
        CHECK.missing(x, "no such note", () -> x.thread(11, 0));
        CHECK.missing(x, "note -1", () -> x.thread(-1, 0));
    }

    private static void promise23Over() {
        Marginalia x = page();
        x.note(NOTER, 3, 6, 2, 0);
        x.note(NOTER, 5, 7, 1, 0);
        x.note(EDITOR, 5, 6, 0, 0);
        x.note(OWNER, 51, 52, 2, 0);
        x.reply(NOTER, 0, 0);
        x.settle(NOTER, 0, true);
        int[][] due = {{0, 1, 1, 3, 1, 0}, {0, 1, 1, 3, 1, 0}, {0, 1, 1, 2, 1, 0}, {0, 1, 1, 1, 0, 0}, {0, 0, 0, 0, 0, 0}};
        for (int user = 0; user < 5; user++) {
            for (int place = 2; place < 8; place++) {
                CHECK.same("over(" + user + ", " + place + ")", due[user][place - 2], x.over(user, place));
            }
        }
        CHECK.same("over the last sign", 1, x.over(READER, 51));
        CHECK.same("beyond the text", 0, x.over(READER, 52));
        CHECK.same("far beyond", 0, x.over(READER, Integer.MAX_VALUE));
        CHECK.same("ahead of it", 0, x.over(READER, -1));
        CHECK.missing(x, "no such user", () -> x.over(5, 0));
        CHECK.missing(x, "user -1", () -> x.over(-1, 99));
        x.remove(NOTER, 0);
        CHECK.same("an empty head", 1, x.over(READER, 3));
        x.remove(NOTER, 4);
        CHECK.same("a gone one", 0, x.over(READER, 3));
        x.delete(OWNER, 5, 1);
        CHECK.same("a lost one", 1, x.over(OWNER, 5));
    }

    private static void exported(String what, Marginalia x, int... notes) {
        for (int place = 0; place < notes.length; place++) {
            CHECK.same(what + ": exported(" + place + ", 0)", notes[place], x.exported(place, 0));
        }
        CHECK.missing(x, what + ": no more", () -> x.exported(notes.length, 0));
    }

    private static void promise24Export() {
        Marginalia x = page();
        CHECK.same("without notes", 0, x.export(OWNER, true));
        x.note(NOTER, 10, 12, 2, 0);
        x.note(EDITOR, 3, 6, 1, 0);
        x.note(NOTER, 8, 9, 0, 0);
        x.reply(OWNER, 1, 0);
        x.settle(OWNER, 1, true);
        CHECK.same("for the owner", 4, x.export(OWNER, true));
        exported("for the owner", x, 1, 3, 2, 0);
        CHECK.same("for the editor", 3, x.export(EDITOR, true));
        exported("for the editor", x, 1, 3, 0);
        CHECK.same("for the editor, not settled", 1, x.export(EDITOR, false));
        exported("for the editor, not settled", x, 0);
        CHECK.same("for the reader", 1, x.export(READER, true));
        CHECK.same("for nobody", 0, x.export(NOBODY, true));
        exported("for nobody", x);
        x.remove(EDITOR, 1);
        CHECK.same("with an empty one", 4, x.export(OWNER, true));
        exported("with an empty one", x, 1, 3, 2, 0);
        CHECK.missing(x, "no such user", () -> x.export(5, true));
        CHECK.missing(x, "user -1", () -> x.export(-1, true));
        exported("a refused one leaves it", x, 1, 3, 2, 0);
        x.remove(OWNER, 3);
        CHECK.same("without gone ones", 2, x.export(OWNER, true));
    }

    private static void promise24OrderOfThreads() {
        Marginalia x = page();
        int[][] parts = {{8, 12}, {3, 9}, {8, 10}, {3, 9}, {3, 5}, {0, 40}, {8, 10}};
        for (int[] part : parts) {
            x.note(OWNER, part[0], part[1], 2, 0);
        }
        x.reply(OWNER, 1, 0);
        CHECK.same("all", 8, x.export(READER, true));
        exported("by begin, end, number", x, 5, 4, 1, 7, 3, 2, 6, 0);
        x.delete(OWNER, 8, 2);
        x.export(READER, true);
        exported("after a cut", x, 5, 4, 1, 7, 3, 2, 6, 0);
        x.delete(OWNER, 3, 6);
        x.export(READER, true);
        exported("after all begin at 3", x, 5, 1, 7, 2, 3, 4, 6, 0);
    }

    private static void promise25Exported() {
        Marginalia x = page();
        x.note(NOTER, 10, 12, 2, 31);
        x.reply(NOTER, 0, 32);
        x.reply(OWNER, 1, 33);
        x.remove(NOTER, 1);
        CHECK.missing(x, "none is kept", () -> x.exported(0, 0));
        CHECK.missing(x, "none is kept, what 4", () -> x.exported(0, 4));
        x.export(OWNER, true);
        x.insert(OWNER, 0, 5, 0);
        x.remove(OWNER, 0);
        x.remove(OWNER, 2);
        CHECK.same("nothing is left", 0, x.many(1));
        int[][] due = {{0, 0, 10, 31}, {1, 1, 10, -1}, {2, 2, 10, 33}};
        for (int place = 0; place < 3; place++) {
            for (int what = 0; what <= 3; what++) {
                CHECK.same("exported(" + place + ", " + what + ")", due[place][what], x.exported(place, what));
            }
        }
        CHECK.missing(x, "place 3", () -> x.exported(3, 0));
        CHECK.missing(x, "place -1", () -> x.exported(-1, 0));
        CHECK.missing(x, "place 3, what 4", () -> x.exported(3, 4));
        CHECK.unfit(x, "what 4", () -> x.exported(0, 4));
        CHECK.unfit(x, "what -1", () -> x.exported(0, -1));
        x.export(OWNER, true);
        CHECK.missing(x, "the next one is empty", () -> x.exported(0, 0));
    }

    private static void promise26MeanThread() {
        Marginalia x = page();
        x.note(OWNER, 10, 12, 2, 0);
        CHECK.same("one of one", 1.0, x.meanThread());
        x.note(OWNER, 10, 12, 2, 0);
        x.note(OWNER, 10, 12, 2, 0);
        x.reply(OWNER, 1, 0);
        CHECK.same("four in three", 4.0 / 3.0, x.meanThread());
        x.remove(OWNER, 1);
        CHECK.same("empty ones count", 4.0 / 3.0, x.meanThread());
        x.reply(OWNER, 3, 0);
        x.remove(OWNER, 0);
        CHECK.same("gone ones do not", 4.0 / 2.0, x.meanThread());
        x.remove(OWNER, 4);
        CHECK.same("three in two", 1.5, x.meanThread());
        x.remove(OWNER, 3);
        x.remove(OWNER, 2);
        CHECK.same("none", 0.0, x.meanThread());
    }
}
