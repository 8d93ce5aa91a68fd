/** How anchors move, are lost and are healed (promises 16, 27 and 28): a test for each sentence that names an edge. */
public final class EdgesOfAnchorsTest {
    private static final int OWNER = Edges.OWNER;

    static void list(Sentences of) {
        of.add("Terms: INSERTED, both are n more, if p is not above f", EdgesOfAnchorsTest::insertedNotAboveBegin);
        of.add("Terms: INSERTED, otherwise t is n more, if p is below t", EdgesOfAnchorsTest::insertedBelowEnd);
        of.add("Terms: INSERTED, neither is more, if p is not below t", EdgesOfAnchorsTest::insertedBehind);
        of.add("Terms: DELETED, f is less by how many are ahead of it", EdgesOfAnchorsTest::deletedAheadOfBegin);
        of.add("Terms: DELETED, t is less by how many are ahead of it", EdgesOfAnchorsTest::deletedAheadOfEnd);
        of.add("Terms: an ANCHOR without SIGNS is LOST", EdgesOfAnchorsTest::lostWithoutSigns);
        of.add("Terms: LOST, f and t are the same, and stay so", EdgesOfAnchorsTest::lostStaysSo);
        of.add("Terms: LOST, both are n more, if p is not above f", EdgesOfAnchorsTest::lostAsInserted);
        of.add("Terms: LOST, till it is HEALED", EdgesOfAnchorsTest::lostTillHealed);
        of.add("Terms: the QUOTE are the SIGNS as it was made", EdgesOfAnchorsTest::quoteAsMade);
        of.add("Terms: the QUOTE is the first 12 at most", EdgesOfAnchorsTest::quoteAtMost12);
        of.add("Terms: HEALED where all SIGNS of the QUOTE stand one behind the other", EdgesOfAnchorsTest::oneBehindOther);
        of.add("Terms: HEALED, of all places", EdgesOfAnchorsTest::ofAllPlaces);
        of.add("Terms: HEALED, the one that is nearest to f", EdgesOfAnchorsTest::nearest);
        of.add("Terms: HEALED, of two the smaller", EdgesOfAnchorsTest::ofTwoTheSmaller);
        of.add("Terms: HEALED, as long as the QUOTE", EdgesOfAnchorsTest::asLongAsTheQuote);
        of.add("16: all ANCHORS that are LOST", EdgesOfAnchorsTest::healsAllLost);
        of.add("16: of HEADS that are not GONE", EdgesOfAnchorsTest::healsNotGone);
        of.add("16: returns how many are not LOST any more", EdgesOfAnchorsTest::howManyHealed);
        of.add("27: ANCHORS of HEADS that are not GONE", EdgesOfAnchorsTest::lostByNotGone);
        of.add("27: that would be LOST", EdgesOfAnchorsTest::wouldBeLost);
        of.add("27: that are not LOST", EdgesOfAnchorsTest::lostByNotLost);
        of.add("27: there is no such SIGN", EdgesOfAnchorsTest::lostByNoSign);
        of.add("27: many is not 1 to as many as there are from there on", EdgesOfAnchorsTest::lostByMany);
        of.add("28: of its HEAD", EdgesOfAnchorsTest::wouldHealOfReply);
        of.add("28: if it was HEALED now, LOST or not", EdgesOfAnchorsTest::wouldHealLostOrNot);
        of.add("28: -1, if its QUOTE stands nowhere", EdgesOfAnchorsTest::wouldHealNowhere);
        of.add("28: there is no such NOTE", EdgesOfAnchorsTest::wouldHealNoNote);
        of.add("28: or it is GONE", EdgesOfAnchorsTest::wouldHealGone);
    }

    public static void main(String[] args) {
        Sentences of = new Sentences();
        list(of);
        of.finish();
    }

    private static Marginalia noted(int signs, int from, int to) {
        Marginalia x = Edges.page(signs);
        x.note(OWNER, from, to, 2, 0);
        return x;
    }

    private static void inserted(Check check, int from, int to, int place, int many, int newFrom, int newTo) {
        Marginalia x = noted(20, from, to);
        x.insert(OWNER, place, many, 0);
        Edges.anchor(check, from + " to " + to + ", " + many + " at " + place, x, 0, newFrom, newTo);
    }

    private static void deleted(Check check, int place, int many, int newFrom, int newTo) {
        Marginalia x = noted(20, 5, 9);
        x.delete(OWNER, place, many);
        Edges.anchor(check, "5 to 9, " + many + " away from " + place, x, 0, newFrom, newTo);
    }

    private static void insertedNotAboveBegin(Check check) {
        inserted(check, 5, 9, 0, 3, 8, 12);
        inserted(check, 5, 9, 4, 3, 8, 12);
        inserted(check, 5, 9, 5, 3, 8, 12);
        inserted(check, 5, 9, 5, 1, 6, 10);
        inserted(check, 5, 9, 5, 40, 45, 49);
        inserted(check, 0, 1, 0, 2, 2, 3);
        inserted(check, 0, 20, 0, 2, 2, 22);
        inserted(check, 19, 20, 19, 2, 21, 22);
    }

    private static void insertedBelowEnd(Check check) {
        inserted(check, 5, 9, 6, 3, 5, 12);
        inserted(check, 5, 9, 8, 3, 5, 12);
        inserted(check, 5, 9, 8, 1, 5, 10);
        inserted(check, 5, 9, 8, 40, 5, 49);
        inserted(check, 0, 2, 1, 2, 0, 4);
        inserted(check, 0, 20, 19, 2, 0, 22);
    }

    private static void insertedBehind(Check check) {
        inserted(check, 5, 9, 9, 3, 5, 9);
        inserted(check, 5, 9, 10, 3, 5, 9);
        inserted(check, 5, 9, 20, 3, 5, 9);
        inserted(check, 5, 6, 6, 3, 5, 6);
        inserted(check, 0, 20, 20, 3, 0, 20);
    }

    private static void deletedAheadOfBegin(Check check) {
        deleted(check, 0, 5, 0, 4);
        deleted(check, 0, 4, 1, 5);
        deleted(check, 4, 1, 4, 8);
        deleted(check, 5, 1, 5, 8);
        deleted(check, 4, 2, 4, 7);
        deleted(check, 2, 5, 2, 4);
        deleted(check, 0, 8, 0, 1);
    }

    private static void deletedAheadOfEnd(Check check) {
        deleted(check, 6, 2, 5, 7);
        deleted(check, 8, 1, 5, 8);
        deleted(check, 9, 1, 5, 9);
        deleted(check, 8, 2, 5, 8);
        deleted(check, 7, 13, 5, 7);
        deleted(check, 9, 11, 5, 9);
        deleted(check, 6, 3, 5, 6);
        deleted(check, 6, 4, 5, 6);
    }

    private static void lostWithoutSigns(Check check) {
        int[][] cuts = {{5, 4}, {4, 5}, {5, 5}, {4, 6}, {0, 9}, {5, 15}, {0, 20}};
        for (int[] cut : cuts) {
            Marginalia x = noted(20, 5, 9);
            x.delete(OWNER, cut[0], cut[1]);
            check.same("lost without " + cut[1] + " from " + cut[0], 1, x.many(4));
            Edges.anchor(check, "lost without " + cut[1], x, 0, cut[0], cut[0]);
        }
        for (int[] cut : new int[][] {{5, 3}, {6, 3}, {0, 8}, {6, 14}}) {
            Marginalia x = noted(20, 5, 9);
            x.delete(OWNER, cut[0], cut[1]);
            check.same("not lost without " + cut[1] + " from " + cut[0], 0, x.many(4));
        }
    }

    private static void lostStaysSo(Check check) {
        Marginalia x = noted(20, 5, 9);
        x.delete(OWNER, 5, 4);
        x.insert(OWNER, 6, 3, 0);
        Edges.anchor(check, "inserted just behind", x, 0, 5, 5);
        x.delete(OWNER, 5, 2);
        Edges.anchor(check, "deleted just behind", x, 0, 5, 5);
        x.delete(OWNER, 4, 1);
        Edges.anchor(check, "deleted just ahead", x, 0, 4, 4);
        x.delete(OWNER, 2, 5);
        Edges.anchor(check, "deleted around", x, 0, 2, 2);
        x.delete(OWNER, 0, x.length());
        Edges.anchor(check, "all deleted", x, 0, 0, 0);
        x.insert(OWNER, 0, 9, 20);
        Edges.anchor(check, "inserted into nothing", x, 0, 9, 9);
        check.same("still lost", 1, x.many(4));
    }

    private static void lostAsInserted(Check check) {
        int[][] due = {{0, 8}, {4, 8}, {5, 8}, {6, 5}, {16, 5}};
        for (int[] one : due) {
            Marginalia x = noted(20, 5, 9);
            x.delete(OWNER, 5, 4);
            x.insert(OWNER, one[0], 3, 0);
            Edges.anchor(check, "3 at " + one[0], x, 0, one[1], one[1]);
        }
    }

    private static void lostTillHealed(Check check) {
        Marginalia x = noted(20, 5, 9);
        x.delete(OWNER, 5, 4);
        x.insert(OWNER, 5, 4, 5);
        check.same("lost, though its signs are there again", 1, x.many(4));
        Edges.anchor(check, "they push it behind them", x, 0, 9, 9);
        x.heal();
        check.same("healed", 0, x.many(4));
        Edges.anchor(check, "healed", x, 0, 5, 9);
        x.insert(OWNER, 6, 1, 0);
        Edges.anchor(check, "it grows again", x, 0, 5, 10);
    }

    private static void quoteAsMade(Check check) {
        Marginalia x = noted(20, 5, 8);
        x.insert(OWNER, 6, 1, 25);
        quoted(check, "inserted", x, 5, 6, 7);
        x.delete(OWNER, 5, 4);
        quoted(check, "deleted", x, 5, 6, 7);
        x.insert(OWNER, 0, 3, 5);
        x.heal();
        quoted(check, "healed", x, 5, 6, 7);
        x.propose(OWNER, 0, 2, 12);
        x.take(OWNER, 0);
        quoted(check, "taken", x, 5, 6, 7);
        x.reply(OWNER, 0, 0);
        x.remove(OWNER, 0);
        quoted(check, "empty", x, 5, 6, 7);
    }

    private static void quoted(Check check, String what, Marginalia x, int... due) {
        for (int place = 0; place < due.length; place++) {
            check.same(what + ": quote " + place, due[place], x.quote(0, place));
        }
        check.same(what + ": behind the quote", -1, x.quote(0, due.length));
    }

    private static void quoteAtMost12(Check check) {
        int[][] due = {{1, 1}, {11, 11}, {12, 12}, {13, 12}, {199, 12}};
        for (int[] one : due) {
            Marginalia x = noted(200, 1, 1 + one[0]);
            check.same("the last of " + one[0], one[1], x.quote(0, one[1] - 1));
            check.same("behind the last of " + one[0], -1, x.quote(0, one[1]));
        }
    }

    private static void oneBehindOther(Check check) {
        Marginalia x = noted(20, 5, 8);
        x.delete(OWNER, 5, 3);
        x.insert(OWNER, 17, 2, 5);
        check.same("the last is missing at the end of the text", 0, x.heal());
        x.insert(OWNER, 0, 1, 7);
        check.same("it stands elsewhere", 0, x.heal());
        x.insert(OWNER, 20, 1, 6);
        check.same("another one stands there", 0, x.heal());
        x.insert(OWNER, 0, 2, 6);
        check.same("the first is missing at the start of the text", 0, x.heal());
        x.delete(OWNER, 22, 1);
        x.insert(OWNER, 22, 1, 7);
        check.same("all stand there", 20, x.wouldHeal(0));
        x.insert(OWNER, 0, 1, 4);
        check.same("another one ahead of the others", 21, x.wouldHeal(0));
        x.delete(OWNER, 21, 1);
        check.same("another one ahead of the others, everywhere", -1, x.wouldHeal(0));
        x.insert(OWNER, 21, 1, 5);
        check.same("all stand there again", 1, x.heal());
        Edges.anchor(check, "all stand there again", x, 0, 21, 24);
        Marginalia y = Edges.text(3, 3, 4);
        y.note(OWNER, 1, 3, 2, 0);
        y.delete(OWNER, 1, 2);
        y.insert(OWNER, 1, 3, 3);
        check.same("its first sign stands twice", 1, y.heal());
        Edges.anchor(check, "its first sign stands twice", y, 0, 1, 3);
    }

    private static void ofAllPlaces(Check check) {
        Marginalia x = Edges.text(9);
        x.note(OWNER, 0, 1, 2, 0);
        without9(x);
        x.delete(OWNER, 0, 1);
        check.same("nowhere yet", -1, x.wouldHeal(0));
        x.insert(OWNER, 199, 1, 9);
        Edges.anchor(check, "lost at the start of 200", x, 0, 0, 0);
        check.same("at the end of 200", 199, x.wouldHeal(0));
        check.same("heal", 1, x.heal());
        Edges.anchor(check, "at the end of 200", x, 0, 199, 200);
        Marginalia y = Edges.page(0);
        without9(y);
        y.insert(OWNER, 199, 1, 9);
        y.note(OWNER, 199, 200, 2, 0);
        y.delete(OWNER, 199, 1);
        check.same("nowhere any more", 0, y.heal());
        y.insert(OWNER, 0, 1, 9);
        Edges.anchor(check, "lost behind the end of 200", y, 0, 200, 200);
        check.same("at the start of 200", 0, y.wouldHeal(0));
        check.same("heal", 1, y.heal());
        Edges.anchor(check, "at the start of 200", y, 0, 0, 1);
    }

    /** Puts 199 signs, none of them 9, behind all. */
    private static void without9(Marginalia x) {
        for (int i = 0; i < 12; i++) {
            x.insert(OWNER, x.length(), 16, 10);
        }
        x.insert(OWNER, x.length(), 7, 10);
    }

    private static void nearest(Check check) {
        Marginalia behind = Edges.text(9, 0, 0, 0, 9, 0, 0, 9);
        behind.note(OWNER, 4, 5, 2, 0);
        behind.delete(OWNER, 4, 1);
        check.same("2 behind, 4 ahead", 6, behind.wouldHeal(0));
        behind.delete(OWNER, 1, 2);
        check.same("2 behind, 2 ahead", 0, behind.wouldHeal(0));
        behind.insert(OWNER, 1, 1, 0);
        check.same("2 behind, 3 ahead", 5, behind.wouldHeal(0));
        behind.heal();
        Edges.anchor(check, "2 behind, 3 ahead", behind, 0, 5, 6);
        Marginalia ahead = Edges.text(9, 9, 0, 9, 0, 0, 9);
        ahead.note(OWNER, 3, 4, 2, 0);
        ahead.delete(OWNER, 3, 1);
        check.same("2 ahead, 2 behind", 1, ahead.wouldHeal(0));
        ahead.insert(OWNER, 4, 1, 0);
        check.same("2 ahead, 3 behind", 1, ahead.wouldHeal(0));
        ahead.insert(OWNER, 4, 1, 9);
        check.same("1 behind", 4, ahead.wouldHeal(0));
        ahead.insert(OWNER, 4, 2, 9);
        ahead.delete(OWNER, 3, 1);
        check.same("just there", 3, ahead.wouldHeal(0));
        Marginalia beside = Edges.text(9, 9, 9);
        beside.note(OWNER, 1, 2, 2, 0);
        check.same("just there, and beside it on both sides", 1, beside.wouldHeal(0));
    }

    private static void ofTwoTheSmaller(Check check) {
        Marginalia x = Edges.text(9, 0, 9, 0, 9);
        x.note(OWNER, 2, 3, 2, 0);
        x.delete(OWNER, 2, 1);
        x.insert(OWNER, 3, 1, 0);
        check.same("2 ahead, 2 behind", 0, x.wouldHeal(0));
        check.same("heal", 1, x.heal());
        Edges.anchor(check, "the smaller", x, 0, 0, 1);
        Marginalia y = Edges.text(9, 8, 0, 0, 9, 8, 0, 0, 9, 8);
        y.note(OWNER, 4, 6, 2, 0);
        y.delete(OWNER, 4, 2);
        check.same("4 ahead, 2 behind", 6, y.wouldHeal(0));
        y.insert(OWNER, 5, 1, 0);
        check.same("4 ahead, 3 behind", 7, y.wouldHeal(0));
        y.insert(OWNER, 5, 1, 0);
        check.same("4 ahead, 4 behind", 0, y.wouldHeal(0));
        check.same("heal", 1, y.heal());
        Edges.anchor(check, "the smaller of two", y, 0, 0, 2);
    }

    private static void asLongAsTheQuote(Check check) {
        int[][] due = {{1, 1}, {11, 11}, {12, 12}, {13, 12}, {26, 12}};
        for (int[] one : due) {
            Marginalia x = noted(40, 0, one[0]);
            x.delete(OWNER, 0, 40);
            x.insert(OWNER, 0, 26, 0);
            x.insert(OWNER, 0, 1, 25);
            check.same("heal", 1, x.heal());
            Edges.anchor(check, "of " + one[0], x, 0, 1, 1 + one[1]);
        }
    }

    private static void healsAllLost(Check check) {
        Marginalia x = Edges.text(9, 8, 7);
        for (int note = 0; note < 3; note++) {
            x.note(OWNER, note, note + 1, 2, 0);
        }
        x.note(OWNER, 0, 1, 2, 0);
        x.delete(OWNER, 0, 3);
        x.insert(OWNER, 0, 3, 7);
        x.note(OWNER, 0, 1, 2, 0);
        x.insert(OWNER, 1, 1, 7);
        x.insert(OWNER, 0, 1, 1);
        check.same("four that are lost, one that is not", 4, x.heal());
        Edges.anchor(check, "the first", x, 0, 4, 5);
        Edges.anchor(check, "the second", x, 1, 3, 4);
        Edges.anchor(check, "the third", x, 2, 2, 3);
        Edges.anchor(check, "another on the first", x, 3, 4, 5);
        Edges.anchor(check, "one that is not lost", x, 4, 1, 2);
        x.delete(OWNER, 1, 1);
        x.propose(OWNER, 1, 0, 0);
        x.take(OWNER, 1);
        check.same("one lost by a take, one by a delete", 1, x.heal());
        Edges.anchor(check, "the one that finds its quote", x, 4, 1, 2);
    }

    private static void healsNotGone(Check check) {
        Marginalia x = noted(20, 5, 8);
        x.note(OWNER, 5, 8, 2, 0);
        x.note(OWNER, 5, 8, 2, 0);
        x.reply(OWNER, 1, 0);
        x.delete(OWNER, 5, 3);
        x.insert(OWNER, 0, 3, 5);
        x.remove(OWNER, 0);
        x.remove(OWNER, 1);
        check.same("an empty head and another one", 2, x.heal());
        Edges.anchor(check, "the empty head", x, 1, 0, 3);
        Edges.anchor(check, "the other one", x, 2, 0, 3);
    }

    private static void howManyHealed(Check check) {
        Marginalia x = noted(20, 5, 8);
        check.same("none is lost", 0, x.heal());
        x.note(OWNER, 10, 13, 2, 0);
        x.delete(OWNER, 0, 20);
        check.same("in no text", 0, x.heal());
        x.insert(OWNER, 0, 3, 5);
        check.same("one of two", 1, x.heal());
        check.same("the other one is lost", 1, x.many(4));
        check.same("nothing more", 0, x.heal());
        x.insert(OWNER, 0, 3, 10);
        check.same("the other one", 1, x.heal());
        check.same("none any more", 0, x.heal());
        x.delete(OWNER, 0, 6);
        x.insert(OWNER, 0, 20, 0);
        check.same("both", 2, x.heal());
        check.same("heal without notes", 0, Edges.page(5).heal());
    }

    private static void lostByNotGone(Check check) {
        Marginalia x = noted(20, 5, 8);
        x.note(OWNER, 5, 8, 2, 0);
        x.reply(OWNER, 1, 0);
        check.same("two heads, a reply", 2, x.lostBy(5, 3));
        x.remove(OWNER, 1);
        check.same("one is empty", 2, x.lostBy(5, 3));
        x.remove(OWNER, 0);
        check.same("one is gone", 1, x.lostBy(5, 3));
        x.remove(OWNER, 2);
        check.same("all are gone", 0, x.lostBy(5, 3));
        check.same("without notes", 0, Edges.page(1).lostBy(0, 1));
    }

    private static void wouldBeLost(Check check) {
        Marginalia x = noted(20, 5, 9);
        int[][] due = {{5, 4, 1}, {4, 5, 1}, {5, 5, 1}, {0, 9, 1}, {5, 15, 1}, {0, 20, 1},
            {5, 3, 0}, {6, 3, 0}, {6, 14, 0}, {0, 8, 0}, {0, 5, 0}, {9, 1, 0}, {6, 2, 0}};
        for (int[] one : due) {
            check.same("lostBy(" + one[0] + ", " + one[1] + ")", one[2], x.lostBy(one[0], one[1]));
        }
        Edges.anchor(check, "not moved", x, 0, 5, 9);
        check.same("not lost", 0, x.many(4));
        Marginalia one = noted(1, 0, 1);
        check.same("one sign", 1, one.lostBy(0, 1));
        Marginalia full = noted(200, 199, 200);
        check.same("the last of 200", 1, full.lostBy(199, 1));
        check.same("all but the last of 200", 0, full.lostBy(0, 199));
    }

    private static void lostByNotLost(Check check) {
        Marginalia x = noted(20, 5, 9);
        x.note(OWNER, 4, 10, 2, 0);
        x.delete(OWNER, 5, 4);
        check.same("one that is lost, one that is not", 1, x.lostBy(4, 2));
        check.same("all", 1, x.lostBy(0, 16));
        check.same("just at the lost one", 0, x.lostBy(5, 1));
    }

    private static void lostByNoSign(Check check) {
        for (int signs : new int[] {1, 40, 200}) {
            Edges.range(check, "lostBy from", () -> Edges.page(signs), 0, signs - 1, Edges.MISSING,
                (x, place) -> x.lostBy(place, 1));
        }
        Marginalia none = Edges.page(0);
        check.missing(none, "the first of none", () -> none.lostBy(0, 1));
    }

    private static void lostByMany(Check check) {
        for (int place : new int[] {0, 1, 150, 198, 199}) {
            Edges.range(check, "lostBy from " + place + " as many as", () -> Edges.page(200), 1, 200 - place,
                Edges.UNFIT, (x, many) -> x.lostBy(place, many));
        }
    }

    private static void wouldHealOfReply(Check check) {
        Marginalia x = noted(20, 0, 1);
        x.note(OWNER, 5, 8, 2, 0);
        x.reply(OWNER, 1, 0);
        x.reply(OWNER, 2, 0);
        check.same("of a reply", 5, x.wouldHeal(2));
        check.same("of a reply to a reply", 5, x.wouldHeal(3));
        check.same("of the other head", 0, x.wouldHeal(0));
        x.remove(OWNER, 1);
        check.same("of an empty one", 5, x.wouldHeal(1));
    }

    private static void wouldHealLostOrNot(Check check) {
        Marginalia x = noted(20, 5, 8);
        check.same("where it stands", 5, x.wouldHeal(0));
        x.insert(OWNER, 6, 1, 0);
        x.insert(OWNER, 1, 3, 5);
        Edges.anchor(check, "not lost", x, 0, 8, 12);
        check.same("not lost, elsewhere", 1, x.wouldHeal(0));
        x.delete(OWNER, 8, 4);
        check.same("lost", 1, x.wouldHeal(0));
        Edges.anchor(check, "it is not healed by that", x, 0, 8, 8);
        check.same("lost still", 1, x.many(4));
        Marginalia y = Edges.text(9, 8, 0, 0, 9, 8, 0, 9, 8);
        y.note(OWNER, 4, 6, 2, 0);
        y.insert(OWNER, 5, 4, 0);
        Edges.anchor(check, "grown", y, 0, 4, 10);
        check.same("4 from where it begins, not 1 from where it ends", 0, y.wouldHeal(0));
    }

    private static void wouldHealNowhere(Check check) {
        Marginalia x = noted(3, 0, 3);
        x.delete(OWNER, 2, 1);
        check.same("longer than the text", -1, x.wouldHeal(0));
        x.delete(OWNER, 0, 2);
        check.same("in no text", -1, x.wouldHeal(0));
        x.insert(OWNER, 0, 3, 1);
        check.same("nowhere in the text", -1, x.wouldHeal(0));
        x.insert(OWNER, 0, 1, 0);
        check.same("at its start", 0, x.wouldHeal(0));
        x.note(OWNER, 2, 4, 2, 0);
        check.same("at its end", 2, x.wouldHeal(1));
    }

    private static void wouldHealNoNote(Check check) {
        Edges.noSuchNote(check, "wouldHeal", 60, (x, note) -> x.wouldHeal(note));
    }

    private static void wouldHealGone(Check check) {
        Edges.goneNote(check, "wouldHeal", (x, note) -> x.wouldHeal(note));
    }
}
