/** Promises 4 to 9: the text, its edits and its versions. */
public final class TextTest {
    private static final Check CHECK = new Check();

    public static void main(String[] args) {
        promise4Insert();
        promise4Refusals();
        promise4Limits();
        promise5Delete();
        promise5Refusals();
        promise6Length();
        promise7Sign();
        promise8Now();
        promise9Version();
        anchorsAsSignsAreInserted();
        anchorsAsSignsAreDeleted();
        lostAnchorsStayLost();
        CHECK.finish();
    }

    private static Marginalia withOwner(int signs) {
        Marginalia x = new Marginalia();
        x.user(4);
        for (int left = signs; left > 0; left -= 40) {
            x.insert(0, x.length(), Math.min(40, left), x.length() % 26);
        }
        return x;
    }

    private static void text(String what, Marginalia x, int... signs) {
        CHECK.same(what + ": length", signs.length, x.length());
        for (int i = 0; i < signs.length; i++) {
            CHECK.same(what + ": sign " + i, signs[i], x.sign(x.version(), i));
        }
    }

    private static void anchor(String what, Marginalia x, int note, int from, int to) {
        CHECK.same(what + ": from", from, x.ofNote(note, 4));
        CHECK.same(what + ": to", to, x.ofNote(note, 5));
    }

    private static void promise4Insert() {
        Marginalia x = withOwner(0);
        CHECK.same("insert into nothing", 3, x.insert(0, 0, 3, 24));
        text("0 comes behind 25", x, 24, 25, 0);
        CHECK.same("insert behind all", 4, x.insert(0, 3, 1, 7));
        CHECK.same("insert between", 6, x.insert(0, 1, 2, 9));
        CHECK.same("insert ahead of all", 7, x.insert(0, 0, 1, 5));
        text("all inserts", x, 5, 24, 9, 10, 25, 0, 7);
        CHECK.same("insert 40", 47, x.insert(0, 7, 40, 25));
        CHECK.same("the 27th of 40 from 25 on", 25, x.sign(5, 7 + 26));
        CHECK.same("the last of 40 from 25 on", 12, x.sign(5, 46));
    }

    private static void promise4Refusals() {
        Marginalia x = withOwner(10);
        x.user(3);
        x.user(2);
        x.user(0);
        CHECK.same("with EDIT", 11, x.insert(1, 0, 1, 0));
        CHECK.denied(x, "with NOTE", () -> x.insert(2, 0, 1, 0));
        CHECK.denied(x, "with none", () -> x.insert(3, 0, 1, 0));
        CHECK.missing(x, "by no user", () -> x.insert(4, 0, 1, 0));
        CHECK.missing(x, "by user -1", () -> x.insert(-1, 0, 1, 0));
        CHECK.missing(x, "at -1", () -> x.insert(0, -1, 1, 0));
        CHECK.missing(x, "beyond the end", () -> x.insert(0, 12, 1, 0));
        CHECK.missing(x, "beyond the end, and too many", () -> x.insert(0, 12, 41, 0));
        CHECK.unfit(x, "many 0", () -> x.insert(0, 0, 0, 0));
        CHECK.unfit(x, "many 41", () -> x.insert(0, 0, 41, 0));
        CHECK.unfit(x, "many MAX", () -> x.insert(0, 0, Integer.MAX_VALUE, 0));
        CHECK.unfit(x, "sign -1", () -> x.insert(0, 0, 1, -1));
        CHECK.unfit(x, "sign 26", () -> x.insert(0, 0, 1, 26));
        CHECK.unfit(x, "sign 26 with NOTE", () -> x.insert(2, 0, 1, 26));
    }

    private static void promise4Limits() {
        Marginalia x = withOwner(199);
        CHECK.denied(x, "201 signs", () -> x.insert(0, 0, 2, 0));
        CHECK.same("200 signs", 200, x.insert(0, 0, 1, 0));
        CHECK.denied(x, "one more", () -> x.insert(0, 0, 1, 0));
        Marginalia y = withOwner(0);
        for (int edit = 0; edit < 60; edit++) {
            y.insert(0, 0, 1, 0);
        }
        CHECK.same("60 edits", 60, y.version());
        CHECK.denied(y, "a 61st edit", () -> y.insert(0, 0, 1, 0));
        CHECK.unfit(y, "a 61st edit of 41", () -> y.insert(0, 0, 41, 0));
    }

    private static void promise5Delete() {
        Marginalia x = withOwner(10);
        CHECK.same("delete between", 8, x.delete(0, 3, 2));
        text("between", x, 0, 1, 2, 5, 6, 7, 8, 9);
        CHECK.same("delete at the end", 6, x.delete(0, 6, 2));
        CHECK.same("delete at the start", 5, x.delete(0, 0, 1));
        text("three cuts", x, 1, 2, 5, 6, 7);
        CHECK.same("delete all", 0, x.delete(0, 0, 5));
        text("all", x);
        CHECK.missing(x, "delete from nothing", () -> x.delete(0, 0, 1));
    }

    private static void promise5Refusals() {
        Marginalia x = withOwner(10);
        x.user(3);
        x.user(2);
        CHECK.same("with EDIT", 9, x.delete(1, 0, 1));
        CHECK.denied(x, "with NOTE", () -> x.delete(2, 0, 1));
        CHECK.missing(x, "by no user", () -> x.delete(3, 0, 1));
        CHECK.missing(x, "at -1", () -> x.delete(0, -1, 1));
        CHECK.missing(x, "at the end", () -> x.delete(0, 9, 1));
        CHECK.missing(x, "at the end, none", () -> x.delete(0, 9, 0));
        CHECK.unfit(x, "none", () -> x.delete(0, 0, 0));
        CHECK.unfit(x, "less than none", () -> x.delete(0, 0, -1));
        CHECK.unfit(x, "one too many", () -> x.delete(0, 0, 10));
        CHECK.unfit(x, "one too many from 8 on", () -> x.delete(0, 8, 2));
        CHECK.unfit(x, "MAX", () -> x.delete(0, 8, Integer.MAX_VALUE));
        CHECK.unfit(x, "none with NOTE", () -> x.delete(2, 0, 0));
        for (int edit = 2; edit < 59; edit++) {
            x.insert(0, 0, 1, 0);
        }
        CHECK.same("the 60th edit", 65, x.delete(0, 0, 1));
        CHECK.denied(x, "a 61st edit", () -> x.delete(0, 0, 1));
        CHECK.unfit(x, "a 61st edit of none", () -> x.delete(0, 0, 0));
    }

    private static void promise6Length() {
        Marginalia x = withOwner(17);
        CHECK.same("length", 17, x.length());
        x.delete(0, 2, 5);
        CHECK.same("length after a delete", 12, x.length());
        Check.outcome(() -> x.insert(0, 99, 1, 0));
        CHECK.same("length after a refusal", 12, x.length());
    }

    private static void promise7Sign() {
        Marginalia x = withOwner(4);
        x.insert(0, 1, 2, 20);
        x.delete(0, 0, 3);
        CHECK.same("sign(0, 0)", -1, x.sign(0, 0));
        CHECK.same("sign(1, 1)", 1, x.sign(1, 1));
        CHECK.same("sign(1, 3)", 3, x.sign(1, 3));
        CHECK.same("sign(1, 4)", -1, x.sign(1, 4));
        CHECK.same("sign(2, 1)", 20, x.sign(2, 1));
        CHECK.same("sign(2, 3)", 1, x.sign(2, 3));
        CHECK.same("sign(2, 5)", 3, x.sign(2, 5));
        CHECK.same("sign(3, 0)", 1, x.sign(3, 0));
        CHECK.same("sign(3, 3)", -1, x.sign(3, 3));
        CHECK.same("sign(3, -1)", -1, x.sign(3, -1));
        CHECK.same("sign(3, MAX)", -1, x.sign(3, Integer.MAX_VALUE));
        CHECK.same("sign(3, MIN)", -1, x.sign(3, Integer.MIN_VALUE));
        CHECK.missing(x, "sign(4, 0)", () -> x.sign(4, 0));
        CHECK.missing(x, "sign(-1, 0)", () -> x.sign(-1, 0));
        CHECK.missing(x, "sign(60, 0)", () -> x.sign(60, 0));
        CHECK.missing(x, "sign(MAX, 0)", () -> x.sign(Integer.MAX_VALUE, 0));
    }

    private static void promise8Now() {
        Marginalia x = withOwner(4);
        x.insert(0, 1, 2, 1);
        x.delete(0, 2, 2);
        CHECK.same("a sign ahead of all edits", 0, x.now(1, 0));
        CHECK.same("a deleted one, though its like is there", -1, x.now(1, 1));
        CHECK.same("one that moved there and back", 2, x.now(1, 2));
        CHECK.same("an inserted one", 1, x.now(2, 1));
        CHECK.same("an inserted one that was deleted", -1, x.now(2, 2));
        CHECK.same("the last one then", 3, x.now(2, 5));
        CHECK.same("one of the version now", 3, x.now(3, 3));
        CHECK.missing(x, "no sign there then", () -> x.now(1, 4));
        CHECK.missing(x, "no sign at all then", () -> x.now(0, 0));
        CHECK.missing(x, "place -1", () -> x.now(2, -1));
        CHECK.missing(x, "no such version", () -> x.now(4, 0));
        CHECK.missing(x, "version -1", () -> x.now(-1, 0));
        x.delete(0, 0, 1);
        x.insert(0, 0, 1, 0);
        CHECK.same("put again is not the same sign", -1, x.now(1, 0));
    }

    private static void promise9Version() {
        Marginalia x = withOwner(0);
        x.insert(0, 0, 5, 0);
        CHECK.same("version after one edit", 1, x.version());
        x.delete(0, 0, 1);
        CHECK.same("version after two", 2, x.version());
        Check.outcome(() -> x.delete(0, 0, 9));
        CHECK.same("version after a refusal", 2, x.version());
        x.note(0, 0, 2, 2, 0);
        x.propose(0, 0, 1, 0);
        CHECK.same("version after a proposal", 2, x.version());
        x.take(0, 0);
        CHECK.same("version after it is taken", 4, x.version());
        x.propose(0, 0, 0, 0);
        x.take(0, 0);
        CHECK.same("version after an empty one is taken", 5, x.version());
    }

    private static void anchorsAsSignsAreInserted() {
        Marginalia x = withOwner(20);
        x.note(0, 5, 9, 2, 0);
        x.insert(0, 4, 1, 0);
        anchor("ahead", x, 0, 6, 10);
        x.insert(0, 6, 2, 0);
        anchor("where it begins", x, 0, 8, 12);
        x.insert(0, 9, 3, 0);
        anchor("inside", x, 0, 8, 15);
        x.insert(0, 14, 1, 0);
        anchor("ahead of its last sign", x, 0, 8, 16);
        x.insert(0, 16, 1, 0);
        anchor("where it ends", x, 0, 8, 16);
        x.insert(0, 20, 1, 0);
        anchor("behind", x, 0, 8, 16);
    }

    private static void anchorsAsSignsAreDeleted() {
        Marginalia x = withOwner(40);
        x.note(0, 10, 20, 2, 0);
        x.delete(0, 2, 3);
        anchor("ahead", x, 0, 7, 17);
        x.delete(0, 5, 4);
        anchor("over its begin", x, 0, 5, 13);
        x.delete(0, 6, 2);
        anchor("inside", x, 0, 5, 11);
        x.delete(0, 9, 5);
        anchor("over its end", x, 0, 5, 9);
        x.delete(0, 9, 3);
        anchor("behind", x, 0, 5, 9);
        x.delete(0, 4, 9);
        anchor("all of it", x, 0, 4, 4);
        CHECK.same("lost", 1, x.many(4));
    }

    private static void lostAnchorsStayLost() {
        Marginalia x = withOwner(20);
        x.note(0, 5, 8, 2, 0);
        x.delete(0, 5, 3);
        anchor("just it", x, 0, 5, 5);
        x.insert(0, 6, 2, 0);
        anchor("inserted behind", x, 0, 5, 5);
        x.insert(0, 5, 2, 0);
        anchor("inserted there", x, 0, 7, 7);
        x.insert(0, 0, 1, 0);
        anchor("inserted ahead", x, 0, 8, 8);
        x.delete(0, 6, 4);
        anchor("deleted around", x, 0, 6, 6);
    }
}
