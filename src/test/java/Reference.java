import java.util.ArrayList;
import java.util.Comparator;
import java.util.List;

/** The document once more, word by word and without care for speed, to hold the program's answers against. */
final class Reference {

    private static final class Sign {
        final int value;

        Sign(int value) {
            this.value = value;
        }
    }

    private static final class Item {
        int number;
        int author;
        int parent = -1;
        int content;
        boolean empty;
        boolean gone;
        int from;
        int to;
        int view;
        boolean settled;
        List<Integer> quote = new ArrayList<>();
        List<Integer> proposal;
    }

    private final List<Integer> users = new ArrayList<>();
    private final List<List<Sign>> texts = new ArrayList<>(List.of(new ArrayList<>()));
    private final List<Item> items = new ArrayList<>();
    private List<int[]> kept = new ArrayList<>();

    private List<Sign> text() {
        return texts.get(texts.size() - 1);
    }

    private static void index(boolean fine) {
        if (!fine) {
            throw new IndexOutOfBoundsException();
        }
    }

    private static void argument(boolean fine) {
        if (!fine) {
            throw new IllegalArgumentException();
        }
    }

    private static void state(boolean fine) {
        if (!fine) {
            throw new IllegalStateException();
        }
    }

    private boolean isUser(int user) {
        return user >= 0 && user < users.size();
    }

    private boolean isNote(int note) {
        return note >= 0 && note < items.size() && !items.get(note).gone;
    }

    private Item head(int note) {
        Item item = items.get(note);
        return item.parent == -1 ? item : head(item.parent);
    }

    private List<Item> heads() {
        List<Item> found = new ArrayList<>();
        for (Item item : items) {
            if (item.parent == -1 && !item.gone) {
                found.add(item);
            }
        }
        return found;
    }

    private List<Item> replies(Item item) {
        List<Item> found = new ArrayList<>();
        for (Item other : items) {
            if (other.parent == item.number && !other.gone) {
                found.add(other);
            }
        }
        return found;
    }

    private void order(Item item, List<Item> into) {
        into.add(item);
        for (Item reply : replies(item)) {
            order(reply, into);
        }
    }

    private List<Item> order(Item head) {
        List<Item> into = new ArrayList<>();
        order(head, into);
        return into;
    }

    private int depth(int note) {
        int parent = items.get(note).parent;
        return parent == -1 ? 0 : 1 + depth(parent);
    }

    private boolean sees(int user, int right, Item item) {
        Item head = head(item.number);
        if (right == 0 || item.gone) {
            return false;
        }
        if (head.view == 2 || right == 4 || head.author == user) {
            return true;
        }
        return head.view == 1 && right >= 2;
    }

    private boolean seesNow(int user, Item item) {
        return sees(user, users.get(user), item);
    }

    private static List<Sign> signs(int many, int sign) {
        List<Sign> made = new ArrayList<>();
        int next = sign;
        for (int i = 0; i < many; i++) {
            made.add(new Sign(next));
            next = next == 25 ? 0 : next + 1;
        }
        return made;
    }

    private void put(int p, int n, int sign) {
        List<Sign> next = new ArrayList<>(text());
        next.addAll(p, signs(n, sign));
        texts.add(next);
        for (Item item : items) {
            if (item.parent == -1) {
                if (p <= item.from) {
                    item.from += n;
                    item.to += n;
                } else if (p < item.to) {
                    item.to += n;
                }
            }
        }
    }

    private void cut(int p, int q) {
        List<Sign> next = new ArrayList<>(text());
        next.subList(p, q).clear();
        texts.add(next);
        for (Item item : items) {
            if (item.parent == -1) {
                int from = item.from;
                int to = item.to;
                for (int gone = p; gone < q; gone++) {
                    if (gone < from) {
                        item.from--;
                    }
                    if (gone < to) {
                        item.to--;
                    }
                }
            }
        }
    }

    private int healed(Item head) {
        int best = -1;
        for (int place = 0; place + head.quote.size() <= text().size(); place++) {
            boolean stands = true;
            for (int i = 0; i < head.quote.size(); i++) {
                stands = stands && text().get(place + i).value == head.quote.get(i);
            }
            if (stands && (best == -1 || Math.abs(place - head.from) < Math.abs(best - head.from))) {
                best = place;
            }
        }
        return best;
    }

    /** How many notes there ever were. */
    int made() {
        return items.size();
    }

    int user(int right) {
        argument(right >= 0 && right <= 4);
        state(users.size() < 6);
        users.add(right);
        return users.size() - 1;
    }

    int setRight(int by, int user, int right) {
        index(isUser(by) && isUser(user));
        argument(right >= 0 && right <= 4);
        state(users.get(by) == 4);
        return users.set(user, right);
    }

    int insert(int user, int place, int many, int sign) {
        index(isUser(user) && place >= 0 && place <= text().size());
        argument(many >= 1 && many <= 40 && sign >= 0 && sign <= 25);
        state(users.get(user) >= 3 && text().size() + many <= 200 && version() < 60);
        put(place, many, sign);
        return text().size();
    }

    int delete(int user, int place, int many) {
        index(isUser(user) && place >= 0 && place < text().size());
        argument(many >= 1 && many <= text().size() - place);
        state(users.get(user) >= 3 && version() < 60);
        cut(place, place + many);
        return text().size();
    }

    int length() {
        return text().size();
    }

    int sign(int version, int place) {
        index(version >= 0 && version < texts.size());
        List<Sign> then = texts.get(version);
        return place >= 0 && place < then.size() ? then.get(place).value : -1;
    }

    int now(int version, int place) {
        index(version >= 0 && version < texts.size());
        index(place >= 0 && place < texts.get(version).size());
        return text().indexOf(texts.get(version).get(place));
    }

    int version() {
        return texts.size() - 1;
    }

    int note(int user, int from, int to, int view, int content) {
        index(isUser(user));
        argument(from >= 0 && to > from && to <= text().size());
        argument(view >= 0 && view <= 2 && content >= 0 && content <= 999);
        state(users.get(user) >= 2 && items.size() < 60);
        Item item = add(user, content);
        item.from = from;
        item.to = to;
        item.view = view;
        for (int i = from; i < to && i < from + 12; i++) {
            item.quote.add(text().get(i).value);
        }
        return item.number;
    }

    private Item add(int user, int content) {
        Item item = new Item();
        item.number = items.size();
        item.author = user;
        item.content = content;
        items.add(item);
        return item;
    }

    int reply(int user, int note, int content) {
        index(isUser(user) && isNote(note));
        argument(content >= 0 && content <= 999);
        state(users.get(user) >= 2 && seesNow(user, items.get(note)));
        state(!items.get(note).empty && items.size() < 60);
        Item item = add(user, content);
        item.parent = note;
        head(note).settled = false;
        return item.number;
    }

    boolean settle(int user, int note, boolean isSettled) {
        index(isUser(user) && isNote(note));
        Item head = head(note);
        state((head.author == user || users.get(user) >= 3) && seesNow(user, items.get(note)));
        boolean before = head.settled;
        head.settled = isSettled;
        return before;
    }

    int remove(int user, int note) {
        index(isUser(user) && isNote(note));
        Item item = items.get(note);
        state((item.author == user || users.get(user) == 4) && seesNow(user, item) && !item.empty);
        item.empty = true;
        int gone = 0;
        while (item != null && item.empty && replies(item).isEmpty()) {
            item.gone = true;
            gone++;
            item = item.parent == -1 ? null : items.get(item.parent);
        }
        return gone;
    }

    int propose(int user, int note, int many, int sign) {
        index(isUser(user) && isNote(note));
        Item item = items.get(note);
        argument(item.parent == -1 && many >= 0 && many <= 40 && sign >= 0 && sign <= 25);
        state(users.get(user) >= 2 && seesNow(user, item) && !item.empty);
        item.proposal = new ArrayList<>();
        for (Sign made : signs(many, sign)) {
            item.proposal.add(made.value);
        }
        if (many == 0) {
            item.proposal = List.of();
        }
        return note;
    }

    int take(int user, int note) {
        index(isUser(user) && isNote(note));
        Item item = items.get(note);
        argument(item.parent == -1);
        state(users.get(user) >= 3 && seesNow(user, item));
        state(item.proposal != null && item.from < item.to);
        int many = item.proposal.size();
        state(text().size() - (item.to - item.from) + many <= 200);
        state(version() + (many == 0 ? 1 : 2) <= 60);
        int place = item.from;
        cut(item.from, item.to);
        if (many > 0) {
            put(place, many, item.proposal.get(0));
        }
        item.from = place;
        item.to = place + many;
        item.settled = true;
        item.proposal = null;
        return text().size();
    }

    int heal() {
        int count = 0;
        for (Item head : heads()) {
            int place = healed(head);
            if (head.from == head.to && place >= 0) {
                head.from = place;
                head.to = place + head.quote.size();
                count++;
            }
        }
        return count;
    }

    int many(int what) {
        argument(what >= 0 && what <= 4);
        int count = 0;
        switch (what) {
            case 0:
                return users.size();
            case 1:
                for (Item item : items) {
                    count += item.gone ? 0 : 1;
                }
                return count;
            case 2:
                return heads().size();
            default:
                for (Item head : heads()) {
                    count += what == 3 && !head.settled || what == 4 && head.from == head.to ? 1 : 0;
                }
                return count;
        }
    }

    int right(int user) {
        index(isUser(user));
        return users.get(user);
    }

    int ofNote(int note, int what) {
        index(isNote(note));
        argument(what >= 0 && what <= 10);
        Item item = items.get(note);
        Item head = head(note);
        int[] facts = {item.author, item.parent, head.number, item.empty ? -1 : item.content, head.from, head.to,
            depth(note), replies(item).size(), head.settled ? 1 : 0, head.view,
            head.proposal == null ? -1 : head.proposal.size()};
        return facts[what];
    }

    int quote(int note, int place) {
        index(isNote(note));
        List<Integer> quote = head(note).quote;
        return place >= 0 && place < quote.size() ? quote.get(place) : -1;
    }

    boolean sees(int user, int note) {
        index(isUser(user) && isNote(note));
        return seesNow(user, items.get(note));
    }

    int thread(int note, int place) {
        index(isNote(note));
        List<Item> order = order(head(note));
        return place >= 0 && place < order.size() ? order.get(place).number : -1;
    }

    int over(int user, int place) {
        index(isUser(user));
        int count = 0;
        for (Item head : heads()) {
            count += seesNow(user, head) && head.from <= place && place < head.to ? 1 : 0;
        }
        return count;
    }

    int export(int user, boolean isAll) {
        index(isUser(user));
        List<Item> heads = heads();
        heads.removeIf(head -> !seesNow(user, head) || !isAll && head.settled);
        heads.sort(Comparator.<Item>comparingInt(head -> head.from).thenComparingInt(head -> head.to)
            .thenComparingInt(head -> head.number));
        kept = new ArrayList<>();
        for (Item head : heads) {
            for (Item item : order(head)) {
                kept.add(new int[] {item.number, depth(item.number), head.from, item.empty ? -1 : item.content});
            }
        }
        return kept.size();
    }

    int exported(int place, int what) {
        index(place >= 0 && place < kept.size());
        argument(what >= 0 && what <= 3);
        return kept.get(place)[what];
    }

    double meanThread() {
        double sum = 0;
        for (Item head : heads()) {
            sum += order(head).size();
        }
        return heads().isEmpty() ? 0 : sum / heads().size();
    }

    int lostBy(int place, int many) {
        index(place >= 0 && place < text().size());
        argument(many >= 1 && many <= text().size() - place);
        int count = 0;
        for (Item head : heads()) {
            int left = 0;
            for (int at = head.from; at < head.to; at++) {
                left += at < place || at >= place + many ? 1 : 0;
            }
            count += head.from < head.to && left == 0 ? 1 : 0;
        }
        return count;
    }

    int wouldHeal(int note) {
        index(isNote(note));
        return healed(head(note));
    }

    int wouldSee(int user, int right) {
        index(isUser(user));
        argument(right >= 0 && right <= 4);
        int count = 0;
        for (Item item : items) {
            count += sees(user, right, item) ? 1 : 0;
        }
        return count;
    }

    long digest() {
        List<Long> all = new ArrayList<>();
        for (int what = 0; what <= 4; what++) {
            all.add((long) many(what));
        }
        all.add((long) length());
        all.add((long) version());
        for (Sign sign : text()) {
            all.add((long) sign.value);
        }
        for (int user = 0; user < users.size(); user++) {
            all.add((long) right(user));
            all.add((long) wouldSee(user, 1));
            all.add((long) over(user, 0));
            all.add((long) over(user, 5));
        }
        for (Item item : items) {
            if (!item.gone) {
                all.add((long) item.number);
                for (int what = 0; what <= 10; what++) {
                    all.add((long) ofNote(item.number, what));
                }
                all.add((long) wouldHeal(item.number));
                for (int user = 0; user < users.size(); user++) {
                    all.add(sees(user, item.number) ? 1L : 0L);
                }
            }
        }
        for (int place = 0; place < kept.size(); place++) {
            for (int what = 0; what <= 3; what++) {
                all.add((long) exported(place, what));
            }
        }
        long d = 58083;
        for (long x : all) {
            d = d * 31 + x;
        }
        return d;
    }
}
