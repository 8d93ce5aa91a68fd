/** What a call that throws leaves as it is, and which exception comes first where several apply. */
public final class EdgesOfRefusalsTest {

    interface Refusal {
        Object call(Marginalia x);
    }

    static void list(Sentences of) {
        of.add("Terms: user that throws changes nothing", EdgesOfRefusalsTest::userLeavesAll);
        of.add("Terms: setRight that throws changes nothing", EdgesOfRefusalsTest::setRightLeavesAll);
        of.add("Terms: insert that throws changes nothing", EdgesOfRefusalsTest::insertLeavesAll);
        of.add("Terms: delete that throws changes nothing", EdgesOfRefusalsTest::deleteLeavesAll);
        of.add("Terms: note that throws changes nothing", EdgesOfRefusalsTest::noteLeavesAll);
        of.add("Terms: reply that throws changes nothing", EdgesOfRefusalsTest::replyLeavesAll);
        of.add("Terms: settle that throws changes nothing", EdgesOfRefusalsTest::settleLeavesAll);
        of.add("Terms: remove that throws changes nothing", EdgesOfRefusalsTest::removeLeavesAll);
        of.add("Terms: propose that throws changes nothing", EdgesOfRefusalsTest::proposeLeavesAll);
        of.add("Terms: take that throws changes nothing", EdgesOfRefusalsTest::takeLeavesAll);
        of.add("Terms: export that throws changes nothing", EdgesOfRefusalsTest::exportLeavesAll);
        of.add("Terms: asking that throws changes nothing", EdgesOfRefusalsTest::askingLeavesAll);
        of.add("Interface: what would be, nothing is changed", EdgesOfRefusalsTest::wouldBeLeavesAll);
        EdgesOfOrderTest.list(of);
    }

    public static void main(String[] args) {
        Sentences of = new Sentences();
        list(of);
        of.finish();
    }

    /** Users 0 to 3 by rights 4, 3, 2, 1; notes 0 to 4: 1 replies to 0, 2 is lost and proposed for, 3 gone, 4 settled. */
    private static Marginalia page() {
        Marginalia x = Edges.users(4, 3, 2, 1);
        x.insert(0, 0, 5, 23);
        x.note(2, 1, 3, 1, 10);
        x.reply(0, 0, 11);
        x.note(0, 3, 4, 0, 12);
        x.propose(0, 2, 2, 9);
        x.delete(0, 3, 1);
        x.note(0, 0, 1, 2, 13);
        x.remove(0, 3);
        x.note(2, 0, 2, 2, 14);
        x.propose(2, 4, 3, 24);
        x.settle(2, 4, true);
        x.remove(2, 0);
        x.export(3, true);
        return x;
    }

    /** What is done after the refusals: its answers tell what they left behind. */
    private static void goOn(Marginalia x) {
        x.take(0, 4);
        x.insert(0, 0, 1, 1);
        x.user(2);
        x.note(1, 0, 1, 2, 15);
        x.reply(1, 1, 16);
        x.heal();
        x.export(0, false);
    }

    private static void leavesAll(Check check, Refusal... refusals) {
        Marginalia x = page();
        Marginalia twin = page();
        for (int i = 0; i < refusals.length; i++) {
            Refusal refusal = refusals[i];
            check.is("call " + i + " throws", Check.outcome(() -> refusal.call(x)) instanceof String);
        }
        check.same("what it tells", Look.at(twin, 5), Look.at(x, 5));
        goOn(x);
        goOn(twin);
        check.same("what it tells later", Look.at(twin, 7), Look.at(x, 7));
    }

    private static void userLeavesAll(Check check) {
        leavesAll(check, x -> x.user(-1), x -> x.user(5), x -> x.user(Edges.MAX));
        Marginalia full = Edges.page(3);
        check.denied(full, "a seventh", () -> full.user(4));
        check.same("the right of the sixth", 2, full.right(5));
        check.same("users", 6, full.many(0));
    }

    private static void setRightLeavesAll(Check check) {
        leavesAll(check, x -> x.setRight(0, 4, 1), x -> x.setRight(4, 0, 1), x -> x.setRight(0, 1, 5),
            x -> x.setRight(0, 1, -1), x -> x.setRight(1, 0, 1), x -> x.setRight(1, 1, 4), x -> x.setRight(3, 2, 0));
    }

    private static void insertLeavesAll(Check check) {
        leavesAll(check, x -> x.insert(4, 0, 1, 0), x -> x.insert(0, 5, 1, 0), x -> x.insert(0, -1, 1, 0),
            x -> x.insert(0, 0, 0, 0), x -> x.insert(0, 0, 41, 0), x -> x.insert(0, 0, 1, 26),
            x -> x.insert(0, 0, 1, -1), x -> x.insert(2, 0, 1, 0), x -> x.insert(3, 0, 1, 0));
        Marginalia full = Edges.page(200);
        full.note(0, 3, 5, 2, 0);
        check.denied(full, "into 200 signs", () -> full.insert(0, 0, 1, 0));
        check.same("their version", 5, full.version());
        Marginalia last = Edges.edited(60);
        last.note(0, 3, 5, 2, 0);
        check.denied(last, "after 60 edits", () -> last.insert(0, 0, 1, 0));
        check.same("a sign of then", 0, last.now(60, 0));
    }

    private static void deleteLeavesAll(Check check) {
        leavesAll(check, x -> x.delete(4, 0, 1), x -> x.delete(0, 4, 1), x -> x.delete(0, -1, 1),
            x -> x.delete(0, 0, 0), x -> x.delete(0, 0, 5), x -> x.delete(0, 3, 2), x -> x.delete(0, 0, -1),
            x -> x.delete(2, 0, 1), x -> x.delete(3, 0, 1));
        Marginalia last = Edges.edited(60);
        last.note(0, 3, 5, 2, 0);
        check.denied(last, "after 60 edits", () -> last.delete(0, 3, 2));
        check.same("a sign of then", 3, last.now(60, 3));
    }

    private static void noteLeavesAll(Check check) {
        leavesAll(check, x -> x.note(4, 0, 1, 2, 0), x -> x.note(0, -1, 1, 2, 0), x -> x.note(0, 1, 1, 2, 0),
            x -> x.note(0, 0, 5, 2, 0), x -> x.note(0, 0, 1, 3, 0), x -> x.note(0, 0, 1, -1, 0),
            x -> x.note(0, 0, 1, 2, 1000), x -> x.note(0, 0, 1, 2, -1), x -> x.note(3, 0, 1, 2, 0));
        Marginalia full = Edges.heads(60);
        check.denied(full, "a 61st", () -> full.note(0, 0, 1, 2, 5));
        check.same("the content of the 60th", 59, full.ofNote(59, 3));
    }

    private static void replyLeavesAll(Check check) {
        leavesAll(check, x -> x.reply(4, 4, 0), x -> x.reply(0, 5, 0), x -> x.reply(0, -1, 0), x -> x.reply(0, 3, 0),
            x -> x.reply(0, 4, 1000), x -> x.reply(0, 4, -1), x -> x.reply(3, 4, 0), x -> x.reply(2, 2, 0),
            x -> x.reply(0, 0, 0));
        Marginalia full = Edges.heads(60);
        full.settle(0, 7, true);
        check.denied(full, "a 61st", () -> full.reply(0, 7, 5));
        check.same("it is settled still", 1, full.ofNote(7, 8));
        check.same("the replies to it", 0, full.ofNote(7, 7));
    }

    private static void settleLeavesAll(Check check) {
        leavesAll(check, x -> x.settle(4, 0, true), x -> x.settle(0, 5, true), x -> x.settle(0, 3, true),
            x -> x.settle(3, 4, false), x -> x.settle(3, 0, true), x -> x.settle(1, 2, true),
            x -> x.settle(2, 2, true));
    }

    private static void removeLeavesAll(Check check) {
        leavesAll(check, x -> x.remove(4, 1), x -> x.remove(0, 5), x -> x.remove(0, 3), x -> x.remove(2, 0),
            x -> x.remove(0, 0), x -> x.remove(2, 1), x -> x.remove(1, 4), x -> x.remove(2, 2), x -> x.remove(3, 4));
    }

    private static void proposeLeavesAll(Check check) {
        leavesAll(check, x -> x.propose(4, 4, 1, 0), x -> x.propose(0, 5, 1, 0), x -> x.propose(0, 3, 1, 0),
            x -> x.propose(0, 1, 1, 0), x -> x.propose(0, 4, 41, 0), x -> x.propose(0, 4, -1, 0),
            x -> x.propose(0, 4, 1, 26), x -> x.propose(0, 4, 1, -1), x -> x.propose(3, 4, 1, 0),
            x -> x.propose(1, 2, 1, 0), x -> x.propose(0, 0, 1, 0));
    }

    private static void takeLeavesAll(Check check) {
        leavesAll(check, x -> x.take(4, 4), x -> x.take(0, 5), x -> x.take(0, 3), x -> x.take(0, 1),
            x -> x.take(2, 4), x -> x.take(3, 4), x -> x.take(1, 2), x -> x.take(0, 2), x -> x.take(0, 0));
        Marginalia full = Edges.page(200);
        full.note(0, 3, 4, 2, 0);
        full.propose(0, 0, 2, 0);
        check.denied(full, "to 201", () -> full.take(0, 0));
        check.same("their version", 5, full.version());
        Marginalia last = Edges.edited(59);
        last.note(0, 3, 4, 2, 0);
        last.propose(0, 0, 2, 0);
        check.denied(last, "to 61 edits", () -> last.take(0, 0));
        check.same("the version", 59, last.version());
        check.same("a sign of then", 3, last.now(59, 3));
    }

    private static void exportLeavesAll(Check check) {
        leavesAll(check, x -> x.export(4, true), x -> x.export(-1, false), x -> x.export(Edges.MAX, true));
    }

    private static void askingLeavesAll(Check check) {
        leavesAll(check, x -> x.sign(3, 0), x -> x.now(3, 0), x -> x.now(2, 4), x -> x.many(5), x -> x.right(4),
            x -> x.ofNote(5, 0), x -> x.ofNote(0, 11), x -> x.ofNote(3, 0), x -> x.quote(3, 0), x -> x.sees(4, 0),
            x -> x.sees(0, 3), x -> x.thread(3, 0), x -> x.over(4, 0), x -> x.exported(9, 0), x -> x.exported(0, 4),
            x -> x.lostBy(4, 1), x -> x.lostBy(0, 5), x -> x.wouldHeal(3), x -> x.wouldSee(4, 1),
            x -> x.wouldSee(0, 5));
    }

    private static void wouldBeLeavesAll(Check check) {
        Marginalia x = page();
        Marginalia twin = page();
        int[] lost = {0, 1, 2, 2};
        for (int many = 1; many <= 4; many++) {
            check.same("lostBy(0, " + many + ")", lost[many - 1], x.lostBy(0, many));
        }
        check.same("wouldHeal of a lost one", -1, x.wouldHeal(2));
        check.same("wouldHeal of one that is not", 1, x.wouldHeal(1));
        for (int user = 0; user < 4; user++) {
            check.same("wouldSee with none", 0, x.wouldSee(user, 0));
            check.same("wouldSee with OWN", 4, x.wouldSee(user, 4));
        }
        check.same("digest once more", x.digest(), x.digest());
        check.same("what it tells", Look.at(twin, 5), Look.at(x, 5));
        goOn(x);
        goOn(twin);
        check.same("what it tells later", Look.at(twin, 7), Look.at(x, 7));
    }
}
