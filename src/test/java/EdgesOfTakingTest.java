/** What is proposed is taken (promise 15): a test for each sentence that names an edge. */
public final class EdgesOfTakingTest {
    private static final int OWNER = Edges.OWNER;
    private static final int NOTER = Edges.NOTER;

    static void list(Sentences of) {
        of.add("Terms: TAKEN, the SIGNS of the ANCHOR are DELETED", EdgesOfTakingTest::deleted);
        of.add("Terms: TAKEN, then these are INSERTED where it was", EdgesOfTakingTest::inserted);
        of.add("Terms: TAKEN, 0 behind 25", EdgesOfTakingTest::behind25);
        of.add("Terms: TAKEN, two EDITS, one if n is 0", EdgesOfTakingTest::edits);
        of.add("Terms: TAKEN, its ANCHOR is around these then", EdgesOfTakingTest::around);
        of.add("Terms: TAKEN, LOST for n = 0", EdgesOfTakingTest::lostForNone);
        of.add("Terms: TAKEN, all other ANCHORS move", EdgesOfTakingTest::othersMove);
        of.add("Terms: TAKEN, the THREAD is SETTLED", EdgesOfTakingTest::settled);
        of.add("Terms: TAKEN, the HEAD has no PROPOSAL any more", EdgesOfTakingTest::noProposal);
        of.add("Terms: TAKEN, its QUOTE stays", EdgesOfTakingTest::quoteStays);
        of.add("Terms: a PROPOSAL stays", EdgesOfTakingTest::proposalStays);
        of.add("Terms: a PROPOSAL can be TAKEN, also as its HEAD is EMPTY", EdgesOfTakingTest::emptyHead);
        of.add("15: user is a USER with EDIT", EdgesOfTakingTest::needsEdit);
        of.add("15: returns how many SIGNS there are then", EdgesOfTakingTest::signsThen);
        of.add("15: there is no such USER", EdgesOfTakingTest::byNoUser);
        of.add("15: there is no such NOTE", EdgesOfTakingTest::ofNoNote);
        of.add("15: or that is GONE", EdgesOfTakingTest::ofGone);
        of.add("15: it is no HEAD", EdgesOfTakingTest::ofReply);
        of.add("15: it is refused to one who does not SEE it", EdgesOfTakingTest::needsSight);
        of.add("15: it has no PROPOSAL", EdgesOfTakingTest::withoutProposal);
        of.add("15: its ANCHOR is LOST", EdgesOfTakingTest::ofLost);
        of.add("15: there would be more than 200 SIGNS", EdgesOfTakingTest::beyond200);
        of.add("15: more than 60 EDITS", EdgesOfTakingTest::beyond60);
    }

    public static void main(String[] args) {
        Sentences of = new Sentences();
        list(of);
        of.finish();
    }

    private static Marginalia taken(int signs, int from, int to, int many, int sign) {
        Marginalia x = Edges.page(signs);
        x.note(NOTER, from, to, 2, 100);
        x.propose(NOTER, 0, many, sign);
        x.take(OWNER, 0);
        return x;
    }

    private static void deleted(Check check) {
        Marginalia x = taken(8, 2, 5, 0, 0);
        Edges.signs(check, "between", x, 0, 1, 5, 6, 7);
        check.same("ahead of it", 1, x.now(1, 1));
        check.same("its first", -1, x.now(1, 2));
        check.same("its last", -1, x.now(1, 4));
        check.same("behind it", 2, x.now(1, 5));
        Edges.signs(check, "all", taken(8, 0, 8, 0, 0));
        Edges.signs(check, "the last", taken(3, 2, 3, 0, 0), 0, 1);
    }

    private static void inserted(Check check) {
        Edges.signs(check, "between", taken(5, 1, 3, 1, 20), 0, 20, 3, 4);
        Edges.signs(check, "the first", taken(3, 0, 1, 2, 20), 20, 21, 1, 2);
        Edges.signs(check, "the last", taken(3, 2, 3, 2, 20), 0, 1, 20, 21);
        Edges.signs(check, "all", taken(3, 0, 3, 3, 20), 20, 21, 22);
    }

    private static void behind25(Check check) {
        Edges.signs(check, "from 25 on", taken(2, 0, 1, 2, 25), 25, 0, 1);
        Marginalia x = taken(2, 0, 1, 40, 25);
        check.same("25 once more", 25, x.sign(3, 26));
        check.same("the last of 40", 12, x.sign(3, 39));
        check.same("behind them", 1, x.sign(3, 40));
    }

    private static void edits(Check check) {
        check.same("of none", 2, taken(8, 2, 5, 0, 0).version());
        check.same("of 1", 3, taken(8, 2, 5, 1, 0).version());
        check.same("of 40", 3, taken(8, 2, 5, 40, 0).version());
        Marginalia x = taken(8, 2, 5, 2, 20);
        check.same("between the two", 5, x.sign(2, 2));
        check.same("no sign more between the two", -1, x.sign(2, 5));
        check.same("behind what is inserted then", 4, x.now(2, 2));
    }

    private static void around(Check check) {
        Edges.anchor(check, "1", taken(8, 2, 5, 1, 0), 0, 2, 3);
        Edges.anchor(check, "as many", taken(8, 2, 5, 3, 0), 0, 2, 5);
        Edges.anchor(check, "40", taken(8, 2, 5, 40, 0), 0, 2, 42);
        Edges.anchor(check, "from 0 on", taken(8, 0, 8, 2, 0), 0, 0, 2);
        Marginalia x = Edges.page(8);
        x.note(NOTER, 2, 5, 2, 100);
        x.propose(NOTER, 0, 2, 0);
        x.insert(OWNER, 0, 3, 0);
        x.insert(OWNER, 6, 2, 0);
        x.take(OWNER, 0);
        Edges.anchor(check, "as it had moved and grown", x, 0, 5, 7);
        check.same("not lost", 0, x.many(4));
    }

    private static void lostForNone(Check check) {
        Marginalia x = taken(8, 2, 5, 0, 0);
        Edges.anchor(check, "between", x, 0, 2, 2);
        check.same("lost", 1, x.many(4));
        Edges.anchor(check, "all", taken(8, 0, 8, 0, 0), 0, 0, 0);
        Edges.anchor(check, "to the end", taken(8, 5, 8, 0, 0), 0, 5, 5);
    }

    private static void othersMove(Check check) {
        Marginalia x = Edges.page(26);
        int[][] parts = {{10, 20}, {10, 20}, {12, 14}, {5, 12}, {15, 25}, {5, 25}, {20, 22}, {8, 10}, {10, 21}, {9, 20}};
        int[][] due = {{10, 13}, {13, 13}, {13, 13}, {5, 10}, {13, 18}, {5, 18}, {13, 15}, {8, 10}, {13, 14}, {9, 10}};
        for (int[] part : parts) {
            x.note(NOTER, part[0], part[1], 2, 0);
        }
        x.propose(NOTER, 0, 3, 0);
        x.take(OWNER, 0);
        for (int note = 0; note < parts.length; note++) {
            Edges.anchor(check, parts[note][0] + " to " + parts[note][1], x, note, due[note][0], due[note][1]);
        }
        Marginalia y = Edges.page(26);
        y.note(NOTER, 9, 10, 2, 0);
        y.note(NOTER, 10, 12, 2, 0);
        y.delete(OWNER, 9, 1);
        y.propose(NOTER, 1, 4, 0);
        y.take(OWNER, 1);
        Edges.anchor(check, "a lost one where it begins", y, 0, 13, 13);
        Edges.anchor(check, "itself", y, 1, 9, 13);
    }

    private static void settled(Check check) {
        check.same("taken", 1, taken(8, 2, 5, 1, 0).ofNote(0, 8));
        check.same("taken with no signs", 1, taken(8, 2, 5, 0, 0).ofNote(0, 8));
        Marginalia x = Edges.heads(2);
        x.settle(OWNER, 1, true);
        x.take(OWNER, 1);
        check.same("settled stays so", 1, x.ofNote(1, 8));
        check.same("the other thread", 0, x.ofNote(0, 8));
    }

    private static void noProposal(Check check) {
        for (int many : new int[] {0, 1, 40}) {
            Marginalia x = taken(8, 2, 5, many, 0);
            check.same("proposal of " + many, -1, x.ofNote(0, 10));
            check.denied(x, "taken again", () -> x.take(OWNER, 0));
        }
        Marginalia x = Edges.heads(2);
        x.take(OWNER, 1);
        check.same("that of the other head", 2, x.ofNote(0, 10));
    }

    private static void quoteStays(Check check) {
        Marginalia x = taken(8, 2, 5, 1, 20);
        for (int place = 0; place < 3; place++) {
            check.same("quote " + place, 2 + place, x.quote(0, place));
        }
        check.same("behind the quote", -1, x.quote(0, 3));
        x.delete(OWNER, 2, 1);
        x.insert(OWNER, 0, 3, 2);
        check.same("it is healed by the quote", 1, x.heal());
        Edges.anchor(check, "healed", x, 0, 0, 3);
    }

    private static void proposalStays(Check check) {
        Marginalia x = Edges.heads(2);
        x.reply(OWNER, 0, 0);
        x.settle(OWNER, 0, true);
        x.insert(OWNER, 0, 1, 0);
        x.delete(OWNER, 4, 3);
        check.same("as it is lost", 2, x.ofNote(0, 10));
        x.insert(OWNER, 0, 3, 3);
        x.heal();
        check.same("as it is healed", 2, x.ofNote(0, 10));
        x.take(OWNER, 1);
        check.same("as another is taken", 2, x.ofNote(0, 10));
        x.remove(OWNER, 0);
        check.same("as its head is empty", 2, x.ofNote(0, 10));
        check.same("of a reply", 2, x.ofNote(2, 10));
    }

    private static void emptyHead(Check check) {
        Marginalia x = Edges.heads(1);
        x.reply(OWNER, 0, 0);
        x.remove(OWNER, 0);
        check.same("take", 25, x.take(OWNER, 0));
        Edges.anchor(check, "taken", x, 0, 3, 5);
        check.same("its first sign", 7, x.sign(3, 3));
        check.same("settled", 1, x.ofNote(0, 8));
        check.same("empty still", -1, x.ofNote(0, 3));
    }

    private static void needsEdit(Check check) {
        Edges.needsRight(check, "take", 3, (x, user) -> x.take(user, 0));
        Marginalia x = Edges.page(26);
        x.note(NOTER, 3, 6, 2, 0);
        x.propose(NOTER, 0, 1, 0);
        check.denied(x, "its author with NOTE", () -> x.take(NOTER, 0));
    }

    private static void signsThen(Check check) {
        check.same("fewer", 5, taken(8, 2, 5, 0, 0).length());
        for (int many : new int[] {0, 1, 40}) {
            Marginalia x = Edges.page(8);
            x.note(NOTER, 2, 5, 2, 0);
            x.propose(NOTER, 0, many, 0);
            check.same("take of " + many, 5 + many, x.take(OWNER, 0));
        }
        Marginalia all = Edges.page(200);
        all.note(NOTER, 0, 200, 2, 0);
        all.propose(NOTER, 0, 0, 0);
        check.same("none", 0, all.take(OWNER, 0));
    }

    private static void byNoUser(Check check) {
        Edges.noSuchUser(check, "take", (x, user) -> x.take(user, 0));
    }

    private static void ofNoNote(Check check) {
        Edges.noSuchNote(check, "take", 60, (x, note) -> x.take(OWNER, note));
    }

    private static void ofGone(Check check) {
        Edges.goneNote(check, "take", (x, note) -> x.take(OWNER, note));
    }

    private static void ofReply(Check check) {
        Marginalia x = Edges.heads(1);
        x.reply(OWNER, 0, 0);
        x.reply(OWNER, 1, 0);
        check.unfit(x, "a reply", () -> x.take(OWNER, 1));
        check.unfit(x, "a reply to a reply", () -> x.take(OWNER, 2));
        check.allowed("its head", () -> x.take(OWNER, 0));
    }

    private static void needsSight(Check check) {
        Edges.needsSight(check, "take", (x, user) -> x.take(user, 0));
    }

    private static void withoutProposal(Check check) {
        Marginalia x = Edges.heads(1);
        x.note(OWNER, 3, 6, 2, 0);
        check.denied(x, "one that never had one", () -> x.take(OWNER, 1));
        x.propose(OWNER, 1, 0, 0);
        check.allowed("one of no signs is one", () -> x.take(OWNER, 1));
    }

    private static void ofLost(Check check) {
        Marginalia x = Edges.heads(1);
        x.delete(OWNER, 4, 2);
        check.same("with one sign left", 25, x.take(OWNER, 0));
        Marginalia y = Edges.heads(1);
        y.delete(OWNER, 3, 3);
        check.denied(y, "lost", () -> y.take(OWNER, 0));
        y.propose(OWNER, 0, 0, 0);
        check.denied(y, "lost, and no signs", () -> y.take(OWNER, 0));
        y.insert(OWNER, 9, 3, 3);
        y.heal();
        check.same("healed", 23, y.take(OWNER, 0));
    }

    private static void beyond200(Check check) {
        int[][] fits = {{200, 1, 1}, {200, 40, 40}, {199, 1, 2}, {161, 1, 40}, {200, 5, 0}};
        for (int[] one : fits) {
            Marginalia x = Edges.page(one[0]);
            x.note(NOTER, 7, 7 + one[1], 2, 0);
            x.propose(NOTER, 0, one[2], 0);
            check.same("in " + one[0], one[0] - one[1] + one[2], x.take(OWNER, 0));
        }
        int[][] full = {{200, 1, 2}, {200, 39, 40}, {199, 1, 3}, {162, 1, 40}};
        for (int[] one : full) {
            Marginalia x = Edges.page(one[0]);
            x.note(NOTER, 7, 7 + one[1], 2, 0);
            x.propose(NOTER, 0, one[2], 0);
            check.denied(x, "to 201 in " + one[0], () -> x.take(OWNER, 0));
        }
    }

    private static void beyond60(Check check) {
        int[][] fits = {{58, 1}, {58, 0}, {59, 0}};
        for (int[] one : fits) {
            Marginalia x = proposedAfter(one[0], one[1]);
            check.allowed(one[1] + " signs after " + one[0], () -> x.take(OWNER, 0));
            check.same("version", one[0] + (one[1] == 0 ? 1 : 2), x.version());
        }
        int[][] full = {{59, 1}, {59, 40}, {60, 0}, {60, 1}};
        for (int[] one : full) {
            Marginalia x = proposedAfter(one[0], one[1]);
            check.denied(x, one[1] + " signs after " + one[0], () -> x.take(OWNER, 0));
        }
    }

    private static Marginalia proposedAfter(int edits, int many) {
        Marginalia x = Edges.edited(edits);
        x.note(NOTER, 3, 6, 2, 0);
        x.propose(NOTER, 0, many, 0);
        return x;
    }
}
