/** What the tests of edges share: pages to begin with, and the questions that many calls have in common. */
final class Edges {
    static final int OWNER = 0;
    static final int EDITOR = 1;
    static final int NOTER = 2;
    static final int READER = 3;
    static final int NOBODY = 4;
    static final int OTHER_NOTER = 5;

    static final int MIN = Integer.MIN_VALUE;
    static final int MAX = Integer.MAX_VALUE;
    static final Class<? extends RuntimeException> MISSING = IndexOutOfBoundsException.class;
    static final Class<? extends RuntimeException> UNFIT = IllegalArgumentException.class;
    static final Class<? extends RuntimeException> DENIED = IllegalStateException.class;

    interface Make {
        Marginalia page();
    }

    interface On {
        Object call(Marginalia x, int number);
    }

    private Edges() {
    }

    /** Six users, one for each right and a second with NOTE, and signs 0 to 25, again and again. */
    static Marginalia page(int signs) {
        Marginalia x = users(4, 3, 2, 1, 0, 2);
        write(x, signs);
        return x;
    }

    static Marginalia users(int... rights) {
        Marginalia x = new Marginalia();
        for (int right : rights) {
            x.user(right);
        }
        return x;
    }

    static void write(Marginalia x, int signs) {
        for (int left = signs; left > 0; left -= 40) {
            x.insert(OWNER, x.length(), Math.min(40, left), x.length() % 26);
        }
    }

    /** Each sign by an edit of its own. */
    static Marginalia text(int... signs) {
        Marginalia x = users(4, 3, 2, 1, 0, 2);
        for (int sign : signs) {
            x.insert(OWNER, x.length(), 1, sign);
        }
        return x;
    }

    /** As many edits, the first of them of 26 signs, all others of one. */
    static Marginalia edited(int edits) {
        Marginalia x = page(26);
        for (int edit = 1; edit < edits; edit++) {
            x.insert(OWNER, 0, 1, 0);
        }
        return x;
    }

    /** All are owners; a head with a proposal, which each of them may do all with. */
    static Marginalia owners(int many) {
        Marginalia x = new Marginalia();
        for (int user = 0; user < many; user++) {
            x.user(4);
        }
        write(x, 26);
        x.note(0, 3, 6, 2, 100);
        x.propose(0, 0, 2, 7);
        return x;
    }

    /** As many heads of the owner, all with a proposal. */
    static Marginalia heads(int many) {
        Marginalia x = page(26);
        for (int note = 0; note < many; note++) {
            x.note(OWNER, 3, 6, 2, note);
            x.propose(OWNER, note, 2, 7);
        }
        return x;
    }

    /** The least and the most are answered, each on a page of its own; what is beside them, or far off, is not. */
    static void range(Check check, String call, Make make, int least, int most,
            Class<? extends RuntimeException> kind, On on) {
        for (int number : new int[] {least, most}) {
            Marginalia x = make.page();
            check.allowed(call + " " + number, () -> on.call(x, number));
        }
        Marginalia x = make.page();
        for (int number : new int[] {least - 1, most + 1, MIN, MAX}) {
            check.refused(x, call + " " + number, kind, () -> on.call(x, number));
        }
    }

    static void noSuchUser(Check check, String call, On on) {
        for (int many : new int[] {1, 2, 6}) {
            range(check, call + " by one of " + many + ":", () -> owners(many), 0, many - 1, MISSING, on);
        }
        Marginalia none = new Marginalia();
        check.missing(none, call + " without users", () -> on.call(none, 0));
    }

    /** Most is the highest count of notes with which the call still answers. */
    static void noSuchNote(Check check, String call, int most, On on) {
        for (int many : new int[] {1, 2, most}) {
            range(check, call + " of " + many + ":", () -> heads(many), 0, many - 1, MISSING, on);
        }
        Marginalia none = page(26);
        check.missing(none, call + " without notes", () -> on.call(none, 0));
        Marginalia full = heads(60);
        check.missing(full, call + " beyond 60", () -> on.call(full, 60));
    }

    /** The first, the middle and the last one of them gone, and an empty one that went with its reply. */
    static void goneNote(Check check, String call, On on) {
        for (int note = 0; note < 3; note++) {
            int gone = note;
            Marginalia x = heads(3);
            x.remove(OWNER, gone);
            check.missing(x, call + " " + gone + ", gone", () -> on.call(x, gone));
            check.allowed(call + " beside a gone one", () -> on.call(x, (gone + 1) % 3));
        }
        Marginalia x = heads(1);
        x.reply(OWNER, 0, 5);
        x.remove(OWNER, 0);
        x.remove(OWNER, 1);
        check.missing(x, call + " of a gone reply", () -> on.call(x, 1));
        check.missing(x, call + " of one gone with its reply", () -> on.call(x, 0));
    }

    /** A user who is no author, on a page where all notes are seen: refused with less, answered with that or more. */
    static void needsRight(Check check, String call, int least, On on) {
        for (int right = 0; right <= 4; right++) {
            Marginalia x = owners(2);
            x.setRight(0, 1, right);
            if (right < least) {
                check.denied(x, call + " with right " + right, () -> on.call(x, 1));
            } else {
                check.allowed(call + " with right " + right, () -> on.call(x, 1));
            }
        }
    }

    /** A head of view 0: an editor is refused, though the right is enough; the owner and its author are not. */
    static void needsSight(Check check, String call, On on) {
        Make make = () -> {
            Marginalia x = users(4, 3, 3);
            write(x, 26);
            x.note(1, 3, 6, 0, 100);
            x.propose(1, 0, 2, 7);
            return x;
        };
        Marginalia hidden = make.page();
        check.denied(hidden, call + " by one who does not see it", () -> on.call(hidden, 2));
        check.allowed(call + " by its author", () -> on.call(make.page(), 1));
        check.allowed(call + " by an owner", () -> on.call(make.page(), 0));
    }

    static void anchor(Check check, String what, Marginalia x, int note, int from, int to) {
        check.same(what + ": begin of " + note, from, x.ofNote(note, 4));
        check.same(what + ": end of " + note, to, x.ofNote(note, 5));
    }

    static void signs(Check check, String what, Marginalia x, int... due) {
        check.same(what + ": length", due.length, x.length());
        for (int place = 0; place < due.length; place++) {
            check.same(what + ": sign " + place, due[place], x.sign(x.version(), place));
        }
    }

    static void order(Check check, String what, Marginalia x, int note, int... due) {
        for (int place = 0; place < due.length; place++) {
            check.same(what + ": thread(" + note + ", " + place + ")", due[place], x.thread(note, place));
        }
        check.same(what + ": behind all", -1, x.thread(note, due.length));
    }
}
