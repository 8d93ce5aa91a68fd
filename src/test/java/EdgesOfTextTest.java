/** The text (promises 4 to 9): a test for each sentence that names an edge. */
public final class EdgesOfTextTest {
    private static final int OWNER = Edges.OWNER;

    static void list(Sentences of) {
        of.add("Terms: the TEXT has at most 200 SIGNS", EdgesOfTextTest::atMost200);
        of.add("Terms: each SIGN is 0 to 25", EdgesOfTextTest::eachSign);
        of.add("Terms: 0 behind 25", EdgesOfTextTest::behind25);
        of.add("Terms: ahead of the SIGN that stands there", EdgesOfTextTest::aheadOfTheSignThere);
        of.add("Terms: each INSERT and each DELETE is an EDIT", EdgesOfTextTest::eachIsAnEdit);
        of.add("Terms: at most 60 EDITS ever", EdgesOfTextTest::atMost60);
        of.add("Terms: the VERSION is how many EDITS there were", EdgesOfTextTest::howManyEdits);
        of.add("4: user is a USER with EDIT", EdgesOfTextTest::insertNeedsEdit);
        of.add("4: as many as there are SIGNS: behind all", EdgesOfTextTest::behindAll);
        of.add("4: returns how many SIGNS there are then", EdgesOfTextTest::signsAfterInsert);
        of.add("4: there is no such USER", EdgesOfTextTest::insertByNoUser);
        of.add("4: there is no such place", EdgesOfTextTest::insertAtNoPlace);
        of.add("4: many is not 1 to 40", EdgesOfTextTest::insertMany);
        of.add("4: sign is not 0 to 25", EdgesOfTextTest::insertSign);
        of.add("4: there would be more than 200", EdgesOfTextTest::insertBeyond200);
        of.add("4: there were 60 EDITS", EdgesOfTextTest::insertBeyond60);
        of.add("5: user is a USER with EDIT", EdgesOfTextTest::deleteNeedsEdit);
        of.add("5: place is the first one", EdgesOfTextTest::deletesFromPlaceOn);
        of.add("5: returns how many SIGNS there are then", EdgesOfTextTest::signsAfterDelete);
        of.add("5: there is no such USER", EdgesOfTextTest::deleteByNoUser);
        of.add("5: there is no such SIGN", EdgesOfTextTest::deleteNoSign);
        of.add("5: many is not 1 to as many as there are from there on", EdgesOfTextTest::deleteMany);
        of.add("5: there were 60 EDITS", EdgesOfTextTest::deleteBeyond60);
        of.add("6: returns how many SIGNS there are", EdgesOfTextTest::howManySigns);
        of.add("7: a VERSION, up to that now", EdgesOfTextTest::signUpToNow);
        of.add("7: the TEXT as it was then", EdgesOfTextTest::signAsItWas);
        of.add("7: -1 if there was none", EdgesOfTextTest::signWhereNone);
        of.add("7: there was no such VERSION", EdgesOfTextTest::signOfNoVersion);
        of.add("8: a VERSION, up to that now", EdgesOfTextTest::nowOfThisVersion);
        of.add("8: returns where this SIGN is now", EdgesOfTextTest::whereItIsNow);
        of.add("8: -1 if it was DELETED since", EdgesOfTextTest::deletedSince);
        of.add("8: there was no such VERSION", EdgesOfTextTest::nowOfNoVersion);
        of.add("8: no SIGN there", EdgesOfTextTest::nowOfNoSign);
        of.add("9: returns the VERSION", EdgesOfTextTest::versionBeforeAndAfter);
    }

    public static void main(String[] args) {
        Sentences of = new Sentences();
        list(of);
        of.finish();
    }

    private static void atMost200(Check check) {
        Marginalia x = Edges.page(200);
        check.same("a full text", 200, x.length());
        check.same("the last sign of a full text", 199 % 26, x.sign(5, 199));
        x.delete(OWNER, 50, 1);
        check.same("full again", 200, x.insert(OWNER, 50, 1, 3));
        x.delete(OWNER, 0, 200);
        Edges.write(x, 200);
        check.same("full, all other signs", 200, x.length());
    }

    private static void eachSign(Check check) {
        for (int sign = 0; sign <= 25; sign++) {
            check.same("sign " + sign, sign, Edges.text(sign).sign(1, 0));
        }
    }

    private static void behind25(Check check) {
        Marginalia x = Edges.users(4);
        x.insert(OWNER, 0, 2, 24);
        Edges.signs(check, "up to 25", x, 24, 25);
        x.insert(OWNER, 2, 2, 25);
        Edges.signs(check, "0 behind 25", x, 24, 25, 25, 0);
        x.insert(OWNER, 4, 40, 25);
        check.same("25 once more", 25, x.sign(3, 4 + 26));
        check.same("0 once more", 0, x.sign(3, 4 + 27));
        check.same("the last of 40", 12, x.sign(3, 43));
    }

    private static void aheadOfTheSignThere(Check check) {
        Marginalia x = Edges.text(1, 2, 3);
        x.insert(OWNER, 2, 1, 20);
        Edges.signs(check, "ahead of the last", x, 1, 2, 20, 3);
        x.insert(OWNER, 0, 2, 10);
        Edges.signs(check, "ahead of the first", x, 10, 11, 1, 2, 20, 3);
        x.insert(OWNER, 3, 1, 15);
        Edges.signs(check, "ahead of one between", x, 10, 11, 1, 15, 2, 20, 3);
    }

    private static void eachIsAnEdit(Check check) {
        Marginalia x = Edges.users(4);
        x.insert(OWNER, 0, 40, 0);
        check.same("an insert of 40", 1, x.version());
        x.delete(OWNER, 0, 39);
        check.same("a delete of 39", 2, x.version());
        x.note(OWNER, 0, 1, 2, 0);
        x.reply(OWNER, 0, 0);
        x.propose(OWNER, 0, 2, 0);
        x.settle(OWNER, 0, true);
        x.heal();
        x.export(OWNER, true);
        check.same("no other call is one", 2, x.version());
        x.take(OWNER, 0);
        check.same("a delete and an insert by take", 4, x.version());
        x.delete(OWNER, 0, 2);
        x.insert(OWNER, 0, 1, 0);
        x.heal();
        check.same("heal is none", 6, x.version());
    }

    private static void atMost60(Check check) {
        Marginalia x = Edges.edited(60);
        x.note(OWNER, 0, 1, 2, 0);
        x.propose(OWNER, 0, 0, 0);
        check.denied(x, "an insert", () -> x.insert(OWNER, 0, 1, 0));
        check.denied(x, "a delete", () -> x.delete(OWNER, 0, 1));
        check.denied(x, "a take of no signs", () -> x.take(OWNER, 0));
        check.same("sign of version 60", 0, x.sign(60, 0));
        check.same("now of version 1", 59, x.now(1, 0));
    }

    private static void howManyEdits(Check check) {
        Marginalia x = Edges.users(4);
        for (int edit = 0; edit < 60; edit++) {
            check.same("version", edit, x.version());
            if (edit % 2 == 0) {
                x.insert(OWNER, 0, 3, 0);
            } else {
                x.delete(OWNER, 0, 3);
            }
        }
        check.same("version of all", 60, x.version());
    }

    private static void insertNeedsEdit(Check check) {
        Edges.needsRight(check, "insert", 3, (x, user) -> x.insert(user, 0, 1, 0));
    }

    private static void behindAll(Check check) {
        Marginalia x = Edges.users(4);
        x.insert(OWNER, 0, 2, 5);
        Edges.signs(check, "behind all of none", x, 5, 6);
        x.insert(OWNER, 2, 1, 9);
        Edges.signs(check, "behind all", x, 5, 6, 9);
        Marginalia y = Edges.page(199);
        y.insert(OWNER, 199, 1, 0);
        check.same("the 200th", 0, y.sign(6, 199));
    }

    private static void signsAfterInsert(Check check) {
        Marginalia x = Edges.users(4);
        check.same("1", 1, x.insert(OWNER, 0, 1, 0));
        check.same("41", 41, x.insert(OWNER, 1, 40, 0));
        Marginalia y = Edges.page(160);
        check.same("200", 200, y.insert(OWNER, 0, 40, 0));
    }

    private static void insertByNoUser(Check check) {
        Edges.noSuchUser(check, "insert", (x, user) -> x.insert(user, 0, 1, 0));
    }

    private static void insertAtNoPlace(Check check) {
        for (int signs : new int[] {0, 1, 40, 199}) {
            Edges.range(check, "insert at", () -> Edges.page(signs), 0, signs, Edges.MISSING,
                (x, place) -> x.insert(OWNER, place, 1, 0));
        }
        Marginalia full = Edges.page(200);
        check.missing(full, "at 201 of 200", () -> full.insert(OWNER, 201, 1, 0));
    }

    private static void insertMany(Check check) {
        for (int signs : new int[] {0, 160}) {
            Edges.range(check, "insert of", () -> Edges.page(signs), 1, 40, Edges.UNFIT,
                (x, many) -> x.insert(OWNER, 0, many, 0));
        }
        Marginalia full = Edges.page(200);
        check.unfit(full, "none into a full text", () -> full.insert(OWNER, 0, 0, 0));
    }

    private static void insertSign(Check check) {
        Edges.range(check, "insert from", () -> Edges.page(1), 0, 25, Edges.UNFIT,
            (x, sign) -> x.insert(OWNER, 0, 2, sign));
    }

    private static void insertBeyond200(Check check) {
        for (int many : new int[] {1, 2, 39, 40}) {
            Marginalia fits = Edges.page(200 - many);
            check.same(many + " to 200", 200, fits.insert(OWNER, 7, many, 0));
            Marginalia full = Edges.page(200 - many + 1);
            check.denied(full, many + " to 201", () -> full.insert(OWNER, 7, many, 0));
        }
        Marginalia full = Edges.page(200);
        check.denied(full, "behind all", () -> full.insert(OWNER, 200, 1, 0));
    }

    private static void insertBeyond60(Check check) {
        Marginalia x = Edges.edited(59);
        check.same("the 60th", 85, x.insert(OWNER, 0, 1, 0));
        check.denied(x, "the 61st", () -> x.insert(OWNER, 0, 1, 0));
        Marginalia y = Edges.edited(59);
        y.delete(OWNER, 0, 84);
        check.denied(y, "into nothing, as the 61st", () -> y.insert(OWNER, 0, 1, 0));
    }

    private static void deleteNeedsEdit(Check check) {
        Edges.needsRight(check, "delete", 3, (x, user) -> x.delete(user, 0, 1));
    }

    private static void deletesFromPlaceOn(Check check) {
        Marginalia x = Edges.text(1, 2, 3, 4, 5, 6);
        x.delete(OWNER, 0, 1);
        Edges.signs(check, "the first", x, 2, 3, 4, 5, 6);
        x.delete(OWNER, 4, 1);
        Edges.signs(check, "the last", x, 2, 3, 4, 5);
        x.delete(OWNER, 1, 2);
        Edges.signs(check, "two between", x, 2, 5);
    }

    private static void signsAfterDelete(Check check) {
        Marginalia x = Edges.page(200);
        check.same("199", 199, x.delete(OWNER, 199, 1));
        check.same("158", 158, x.delete(OWNER, 0, 41));
        check.same("1", 1, x.delete(OWNER, 1, 157));
        check.same("0", 0, x.delete(OWNER, 0, 1));
    }

    private static void deleteByNoUser(Check check) {
        Edges.noSuchUser(check, "delete", (x, user) -> x.delete(user, 0, 1));
    }

    private static void deleteNoSign(Check check) {
        for (int signs : new int[] {1, 40, 200}) {
            Edges.range(check, "delete from", () -> Edges.page(signs), 0, signs - 1, Edges.MISSING,
                (x, place) -> x.delete(OWNER, place, 1));
        }
        Marginalia none = Edges.page(0);
        check.missing(none, "the first of none", () -> none.delete(OWNER, 0, 1));
        Marginalia emptied = Edges.page(3);
        emptied.delete(OWNER, 0, 3);
        check.missing(emptied, "the first of none any more", () -> emptied.delete(OWNER, 0, 1));
    }

    private static void deleteMany(Check check) {
        for (int place : new int[] {0, 1, 150, 198, 199}) {
            Edges.range(check, "delete from " + place + " as many as", () -> Edges.page(200), 1, 200 - place,
                Edges.UNFIT, (x, many) -> x.delete(OWNER, place, many));
        }
    }

    private static void deleteBeyond60(Check check) {
        Marginalia x = Edges.edited(59);
        check.same("the 60th", 83, x.delete(OWNER, 0, 1));
        check.denied(x, "the 61st", () -> x.delete(OWNER, 0, 1));
        Marginalia y = Edges.edited(60);
        check.denied(y, "all, as the 61st", () -> y.delete(OWNER, 0, 85));
    }

    private static void howManySigns(Check check) {
        for (int signs : new int[] {0, 1, 199, 200}) {
            check.same("length", signs, Edges.page(signs).length());
        }
        Marginalia x = Edges.page(1);
        x.delete(OWNER, 0, 1);
        check.same("length of none any more", 0, x.length());
    }

    private static void signUpToNow(Check check) {
        Marginalia x = Edges.edited(60);
        check.same("of the first edit", 25, x.sign(1, 25));
        check.same("of all but one", 25, x.sign(59, 83));
        check.same("of the last", 25, x.sign(60, 84));
        Marginalia y = Edges.page(0);
        check.same("of none", -1, y.sign(0, 0));
    }

    private static void signAsItWas(Check check) {
        Marginalia x = Edges.text(7);
        x.insert(OWNER, 0, 1, 8);
        x.delete(OWNER, 1, 1);
        x.insert(OWNER, 1, 2, 3);
        int[][] due = {{}, {7}, {8, 7}, {8}, {8, 3, 4}};
        for (int version = 0; version < due.length; version++) {
            for (int place = 0; place < due[version].length; place++) {
                check.same("sign(" + version + ", " + place + ")", due[version][place], x.sign(version, place));
            }
        }
    }

    private static void signWhereNone(Check check) {
        Marginalia x = Edges.page(200);
        x.delete(OWNER, 0, 200);
        int[] lengths = {0, 40, 80, 120, 160, 200, 0};
        for (int version = 0; version < lengths.length; version++) {
            for (int place : new int[] {lengths[version], lengths[version] + 1, -1, Edges.MIN, Edges.MAX}) {
                check.same("sign(" + version + ", " + place + ")", -1, x.sign(version, place));
            }
        }
        check.same("where there was one", 199 % 26, x.sign(5, 199));
    }

    private static void signOfNoVersion(Check check) {
        for (int edits : new int[] {1, 2, 59, 60}) {
            Edges.range(check, "sign of version", () -> Edges.edited(edits), 0, edits, Edges.MISSING,
                (x, version) -> x.sign(version, 0));
        }
        Marginalia none = new Marginalia();
        check.missing(none, "version 1 of none", () -> none.sign(1, 0));
        check.missing(none, "version -1 of none", () -> none.sign(-1, 0));
    }

    private static void nowOfThisVersion(Check check) {
        Marginalia x = Edges.edited(60);
        for (int place : new int[] {0, 1, 83, 84}) {
            check.same("now(60, " + place + ")", place, x.now(60, place));
        }
        check.same("of all but one", 1, x.now(59, 0));
        check.same("of the first edit", 84, x.now(1, 25));
        Marginalia full = Edges.page(200);
        check.same("the last of 200", 199, full.now(5, 199));
    }

    private static void whereItIsNow(Check check) {
        Marginalia x = Edges.text(4, 4, 4);
        x.insert(OWNER, 1, 2, 4);
        check.same("ahead of an insert", 0, x.now(3, 0));
        check.same("where one was inserted", 3, x.now(3, 1));
        check.same("behind an insert", 4, x.now(3, 2));
        x.delete(OWNER, 1, 1);
        check.same("ahead of a delete", 0, x.now(3, 0));
        check.same("behind a delete", 2, x.now(3, 1));
        check.same("what was inserted", 1, x.now(4, 2));
        x.note(OWNER, 1, 2, 2, 0);
        x.propose(OWNER, 0, 5, 0);
        x.take(OWNER, 0);
        check.same("behind what was taken", 6, x.now(3, 1));
        check.same("what was taken", 1, x.now(7, 1));
    }

    private static void deletedSince(Check check) {
        Marginalia x = Edges.text(4, 5, 6);
        x.delete(OWNER, 1, 1);
        check.same("deleted", -1, x.now(3, 1));
        check.same("beside it", 1, x.now(3, 2));
        x.insert(OWNER, 1, 1, 5);
        check.same("the same put there again", -1, x.now(3, 1));
        x.note(OWNER, 0, 1, 2, 0);
        x.propose(OWNER, 0, 1, 4);
        x.take(OWNER, 0);
        check.same("deleted by take, and the same put there", -1, x.now(1, 0));
        x.delete(OWNER, 0, 3);
        check.same("all deleted", -1, x.now(3, 2));
        check.same("all deleted, of the version ahead", -1, x.now(7, 0));
    }

    private static void nowOfNoVersion(Check check) {
        for (int edits : new int[] {1, 2, 59, 60}) {
            Edges.range(check, "now of version", () -> Edges.edited(edits), 1, edits, Edges.MISSING,
                (x, version) -> x.now(version, 0));
        }
        Marginalia x = Edges.edited(2);
        check.missing(x, "version -1", () -> x.now(-1, 0));
        check.missing(x, "version 61", () -> x.now(61, 0));
    }

    private static void nowOfNoSign(Check check) {
        Marginalia x = Edges.page(200);
        x.delete(OWNER, 0, 199);
        int[] lengths = {0, 40, 80, 120, 160, 200, 1};
        for (int version = 0; version < lengths.length; version++) {
            int then = version;
            for (int place : new int[] {lengths[then], lengths[then] + 1, -1, Edges.MIN, Edges.MAX}) {
                check.missing(x, "now(" + then + ", " + place + ")", () -> x.now(then, place));
            }
        }
        check.same("the last there was", 0, x.now(5, 199));
        check.same("the last there is", 0, x.now(6, 0));
    }

    private static void versionBeforeAndAfter(Check check) {
        Marginalia x = new Marginalia();
        check.same("of a new one", 0, x.version());
        check.same("of 60", 60, Edges.edited(60).version());
    }
}
