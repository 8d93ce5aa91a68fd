import java.util.ArrayList;
import java.util.List;

/** All that an object tells of itself, as it is asked for one by one; for small objects, some 200 calls. */
final class Look {
    private final Marginalia x;
    private final List<Object> told = new ArrayList<>();

    private Look(Marginalia x) {
        this.x = x;
    }

    static List<Object> at(Marginalia x, int notes) {
        Look look = new Look(x);
        look.atText();
        look.atUsers();
        for (int note = 0; note < notes; note++) {
            look.atNote(note);
        }
        look.atExport();
        look.told.add(x.meanThread());
        look.told.add(x.digest());
        return look.told;
    }

    private void atText() {
        int versions = x.version();
        for (int version = 0; version <= versions; version++) {
            int place = 0;
            for (int sign = x.sign(version, 0); sign >= 0; sign = x.sign(version, place)) {
                told.add(sign);
                told.add(x.now(version, place));
                place++;
            }
            told.add(place);
        }
    }

    private void atUsers() {
        int users = x.many(0);
        int length = x.length();
        for (int user = 0; user < users; user++) {
            told.add(x.right(user));
            for (int right = 0; right <= 4; right++) {
                told.add(x.wouldSee(user, right));
            }
            for (int place = 0; place < length; place++) {
                told.add(x.over(user, place));
            }
        }
        for (int place = 0; place < length; place++) {
            told.add(x.lostBy(place, 1));
        }
    }

    private void atNote(int note) {
        if (Check.outcome(() -> x.ofNote(note, 0)) instanceof String) {
            told.add("gone");
            return;
        }
        for (int what = 0; what <= 10; what++) {
            told.add(x.ofNote(note, what));
        }
        for (int place = 0; place < 3; place++) {
            told.add(x.quote(note, place));
            told.add(x.thread(note, place));
        }
        told.add(x.wouldHeal(note));
    }

    private void atExport() {
        boolean isThere = true;
        for (int place = 0; isThere; place++) {
            int at = place;
            for (int what = 0; what <= 3; what++) {
                int column = what;
                Object answer = Check.outcome(() -> x.exported(at, column));
                told.add(answer);
                isThere = !(answer instanceof String);
            }
        }
    }
}
