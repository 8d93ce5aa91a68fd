/** Notes at the side of a text: who may write, what the notes say, and where their parts of the text went. */
public final class Marginalia {

    private static final int MAX_USERS = 6;
    private static final int MAX_SIGNS = 200;
    private static final int MAX_SIGN = 25;
    private static final int MAX_EDITS = 60;
    private static final int MAX_PUT = 40;
    private static final int MAX_NOTES = 60;
    private static final int MAX_CONTENT = 999;
    private static final int MAX_QUOTE = 12;

    private static final int RIGHT_NONE = 0;
    private static final int RIGHT_READ = 1;
    private static final int RIGHT_NOTE = 2;
    private static final int RIGHT_EDIT = 3;
    private static final int RIGHT_OWN = 4;

    private static final int VIEW_NOTERS = 1;
    private static final int VIEW_ALL = 2;

    private static final int COUNT_USERS = 0;
    private static final int COUNT_NOTES = 1;
    private static final int COUNT_THREADS = 2;
    private static final int COUNT_UNSETTLED = 3;
    private static final int COUNT_LOST = 4;

    private static final int LAST_FACT = 10;

    private static final int NOTHING = -1;

    private static final int DIGEST_START = 58083;
    private static final int DIGEST_FACTOR = 31;

    private final int[] rights;
    private final Text text;
    private final Note[] notes;
    private final Note[] chosenHeads;
    private final Export kept;
    private int userCount;
    private int noteCount;

    public Marginalia() {
        rights = new int[MAX_USERS];
        text = new Text();
        notes = new Note[MAX_NOTES];
        chosenHeads = new Note[MAX_NOTES];
        kept = new Export();
    }

    // ---- users

    public int user(int right) throws IllegalArgumentException, IllegalStateException {
        requireArgument(isRight(right));
        requireState(userCount < MAX_USERS);
        rights[userCount] = right;
        userCount++;
        return userCount - 1;
    }

    public int setRight(int by, int user, int right)
            throws IndexOutOfBoundsException, IllegalArgumentException, IllegalStateException {
        requireUser(by);
        requireUser(user);
        requireArgument(isRight(right));
        requireState(rights[by] == RIGHT_OWN);
        int before = rights[user];
        rights[user] = right;
        return before;
    }

    // ---- the text

    public int insert(int user, int place, int many, int sign)
            throws IndexOutOfBoundsException, IllegalArgumentException, IllegalStateException {
        requireUser(user);
        requireIndex(isWithin(place, 0, text.size()));
        requireArgument(isWithin(many, 1, MAX_PUT) && isWithin(sign, 0, MAX_SIGN));
        requireState(rights[user] >= RIGHT_EDIT && text.hasRoomFor(many, 1));
        putSigns(place, many, sign);
        return text.size();
    }

    public int delete(int user, int place, int many)
            throws IndexOutOfBoundsException, IllegalArgumentException, IllegalStateException {
        requireUser(user);
        requireSign(place);
        requireArgument(isWithin(many, 1, text.size() - place));
        requireState(rights[user] >= RIGHT_EDIT && text.hasRoomFor(0, 1));
        cutSigns(place, many);
        return text.size();
    }

    public int length() {
        return text.size();
    }

    public int sign(int version, int place) throws IndexOutOfBoundsException {
        requireIndex(text.hasVersion(version));
        return text.hasSignIn(version, place) ? text.signIn(version, place) : NOTHING;
    }

    public int now(int version, int place) throws IndexOutOfBoundsException {
        requireIndex(text.hasVersion(version));
        requireIndex(text.hasSignIn(version, place));
        return text.placeNow(version, place);
    }

    public int version() {
        return text.edits;
    }

    // ---- notes

    public int note(int user, int from, int to, int view, int content)
            throws IndexOutOfBoundsException, IllegalArgumentException, IllegalStateException {
        requireUser(user);
        requireArgument(from >= 0 && to > from && to <= text.size());
        requireArgument(isWithin(view, 0, VIEW_ALL) && isContent(content));
        requireState(rights[user] >= RIGHT_NOTE && noteCount < MAX_NOTES);
        Strand strand = new Strand(noteCount, user, view, new Anchor(from, to), quoteOf(from, to));
        return keepNote(new Note(noteCount, user, content, null, strand));
    }

    public int reply(int user, int note, int content)
            throws IndexOutOfBoundsException, IllegalArgumentException, IllegalStateException {
        requireUser(user);
        Note parent = requireNote(note);
        requireArgument(isContent(content));
        requireState(rights[user] >= RIGHT_NOTE && isSeen(user, parent));
        requireState(!parent.isEmpty && noteCount < MAX_NOTES);
        Note answer = new Note(noteCount, user, content, parent, parent.strand);
        parent.addReply(answer);
        parent.strand.isSettled = false;
        return keepNote(answer);
    }

    public boolean settle(int user, int note, boolean isSettled)
            throws IndexOutOfBoundsException, IllegalStateException {
        requireUser(user);
        Note named = requireNote(note);
        Strand strand = named.strand;
        requireState(strand.author == user || rights[user] >= RIGHT_EDIT);
        requireState(isSeen(user, named));
        boolean wasSettled = strand.isSettled;
        strand.isSettled = isSettled;
        return wasSettled;
    }

    public int remove(int user, int note) throws IndexOutOfBoundsException, IllegalStateException {
        requireUser(user);
        Note removed = requireNote(note);
        requireState(removed.author == user || rights[user] == RIGHT_OWN);
        requireState(isSeen(user, removed) && !removed.isEmpty);
        return removed.emptyAndDrop();
    }

    public int propose(int user, int note, int many, int sign)
            throws IndexOutOfBoundsException, IllegalArgumentException, IllegalStateException {
        requireUser(user);
        Note head = requireNote(note);
        requireArgument(head.isHead() && isWithin(many, 0, MAX_PUT) && isWithin(sign, 0, MAX_SIGN));
        requireState(rights[user] >= RIGHT_NOTE && isSeen(user, head) && !head.isEmpty);
        head.strand.proposedMany = many;
        head.strand.proposedSign = sign;
        return head.number;
    }

    public int take(int user, int note)
            throws IndexOutOfBoundsException, IllegalArgumentException, IllegalStateException {
        requireUser(user);
        Note head = requireNote(note);
        requireArgument(head.isHead());
        requireState(rights[user] >= RIGHT_EDIT && isSeen(user, head));
        requireState(canTake(head.strand));
        putProposal(head.strand);
        return text.size();
    }

    public int heal() {
        int healed = 0;
        for (int i = 0; i < noteCount; i++) {
            if (notes[i].isHeadNotGone() && healAnchor(notes[i].strand)) {
                healed++;
            }
        }
        return healed;
    }

    // ---- asking

    public int many(int what) throws IllegalArgumentException {
        requireArgument(isWithin(what, COUNT_USERS, COUNT_LOST));
        if (what == COUNT_USERS) {
            return userCount;
        }
        return what == COUNT_NOTES ? countNotes() : countStrands(what);
    }

    public int right(int user) throws IndexOutOfBoundsException {
        requireUser(user);
        return rights[user];
    }

    public int ofNote(int note, int what) throws IndexOutOfBoundsException, IllegalArgumentException {
        Note asked = requireNote(note);
        requireArgument(isWithin(what, 0, LAST_FACT));
        return asked.fact(what);
    }

    public int quote(int note, int place) throws IndexOutOfBoundsException {
        int[] signs = requireNote(note).strand.quoted;
        return isWithin(place, 0, signs.length - 1) ? signs[place] : NOTHING;
    }

    public boolean sees(int user, int note) throws IndexOutOfBoundsException {
        requireUser(user);
        return isSeen(user, requireNote(note));
    }

    public int thread(int note, int place) throws IndexOutOfBoundsException {
        int at = 0;
        for (Note next = headOf(requireNote(note)); next != null; next = next.nextInOrder) {
            if (!next.isGone) {
                if (at == place) {
                    return next.number;
                }
                at++;
            }
        }
        return NOTHING;
    }

    public int over(int user, int place) throws IndexOutOfBoundsException {
        requireUser(user);
        int count = 0;
        for (int i = 0; i < noteCount; i++) {
            Note note = notes[i];
            if (note.isHeadNotGone() && isSeen(user, note) && note.strand.anchor.covers(place)) {
                count++;
            }
        }
        return count;
    }

    public int export(int user, boolean isAll) throws IndexOutOfBoundsException {
        requireUser(user);
        int chosen = chooseHeads(user, isAll);
        kept.size = 0;
        for (int i = 0; i < chosen; i++) {
            kept.addOrder(chosenHeads[i]);
        }
        return kept.size;
    }

    public int exported(int place, int what) throws IndexOutOfBoundsException, IllegalArgumentException {
        requireIndex(isWithin(place, 0, kept.size - 1));
        requireArgument(isWithin(what, 0, Export.COLUMNS - 1));
        return kept.columns[what][place];
    }

    public double meanThread() {
        int threads = countStrands(COUNT_THREADS);
        return threads == 0 ? 0.0 : (double) countNotes() / threads;
    }

    // ---- what would be (nothing is changed)

    public int lostBy(int place, int many) throws IndexOutOfBoundsException, IllegalArgumentException {
        requireSign(place);
        requireArgument(isWithin(many, 1, text.size() - place));
        int count = 0;
        for (int i = 0; i < noteCount; i++) {
            if (notes[i].isHeadNotGone() && notes[i].strand.anchor.wouldBeLost(place, place + many)) {
                count++;
            }
        }
        return count;
    }

    public int wouldHeal(int note) throws IndexOutOfBoundsException {
        return placeOfQuote(requireNote(note).strand);
    }

    public int wouldSee(int user, int right) throws IndexOutOfBoundsException, IllegalArgumentException {
        requireUser(user);
        requireArgument(isRight(right));
        int count = 0;
        for (int i = 0; i < noteCount; i++) {
            if (!notes[i].isGone && notes[i].strand.isSeenBy(user, right)) {
                count++;
            }
        }
        return count;
    }

    public long digest() {
        long d = digestText(DIGEST_START);
        for (int user = 0; user < userCount; user++) {
            d = digestUser(d, user);
        }
        for (int i = 0; i < noteCount; i++) {
            if (!notes[i].isGone) {
                d = digestNote(d, i);
            }
        }
        return digestExport(d);
    }

    // ---- what a call asks for, in the order of the exceptions

    private void requireUser(int user) {
        if (!isWithin(user, 0, userCount - 1)) {
            throw new IndexOutOfBoundsException("there is no such user");
        }
    }

    private void requireSign(int place) {
        if (!isWithin(place, 0, text.size() - 1)) {
            throw new IndexOutOfBoundsException("there is no such sign");
        }
    }

    private Note requireNote(int number) {
        if (!isWithin(number, 0, noteCount - 1)) {
            throw new IndexOutOfBoundsException("there is no such note");
        }
        Note note = notes[number];
        if (note == null || note.isGone) {
            throw new IndexOutOfBoundsException("the note is gone");
        }
        return note;
    }

    private static void requireIndex(boolean isThere) {
        if (!isThere) {
            throw new IndexOutOfBoundsException("there is no such place or version");
        }
    }

    private static void requireArgument(boolean isFit) {
        if (!isFit) {
            throw new IllegalArgumentException("a number is outside its range");
        }
    }

    private static void requireState(boolean isFit) {
        if (!isFit) {
            throw new IllegalStateException("it is refused, or a limit is reached");
        }
    }

    private static boolean isWithin(int number, int least, int most) {
        return number >= least && number <= most;
    }

    private static boolean isRight(int right) {
        return isWithin(right, RIGHT_NONE, RIGHT_OWN);
    }

    private static boolean isContent(int content) {
        return isWithin(content, 0, MAX_CONTENT);
    }

    // ---- edits, and the anchors that move with them

    private void putSigns(int place, int many, int sign) {
        text.edit(place, 0, many, sign);
        for (int i = 0; i < noteCount; i++) {
            if (notes[i].isHead()) {
                notes[i].strand.anchor.moveAsPut(place, many);
            }
        }
    }

    private void cutSigns(int place, int many) {
        text.edit(place, many, 0, 0);
        for (int i = 0; i < noteCount; i++) {
            if (notes[i].isHead()) {
                notes[i].strand.anchor.moveAsCut(place, place + many);
            }
        }
    }

    private boolean canTake(Strand strand) {
        int edits = strand.proposedMany == 0 ? 1 : 2;
        return strand.proposedMany != NOTHING
                && !strand.anchor.isLost()
                && text.hasRoomFor(strand.proposedMany - strand.anchor.size(), edits);
    }

    private void putProposal(Strand strand) {
        Anchor anchor = strand.anchor;
        int begin = anchor.from;
        int many = strand.proposedMany;
        cutSigns(begin, anchor.size());
        if (many > 0) {
            putSigns(begin, many, strand.proposedSign);
        }
        // The insert pushed this anchor, lost by the cut, behind its own new signs.
        anchor.lay(begin, begin + many);
        strand.isSettled = true;
        strand.proposedMany = NOTHING;
    }

    private int[] quoteOf(int from, int to) {
        int[] signs = new int[Math.min(to - from, MAX_QUOTE)];
        for (int i = 0; i < signs.length; i++) {
            signs[i] = text.signIn(text.edits, from + i);
        }
        return signs;
    }

    private boolean healAnchor(Strand strand) {
        if (!strand.anchor.isLost()) {
            return false;
        }
        int place = placeOfQuote(strand);
        if (place == NOTHING) {
            return false;
        }
        strand.anchor.lay(place, place + strand.quoted.length);
        return true;
    }

    /** Goes outward from where the anchor begins, so the first place found is the nearest. */
    private int placeOfQuote(Strand strand) {
        int begin = strand.anchor.from;
        for (int far = 0; far <= MAX_SIGNS; far++) {
            if (text.hasAt(begin - far, strand.quoted)) {
                return begin - far;
            }
            if (text.hasAt(begin + far, strand.quoted)) {
                return begin + far;
            }
        }
        return NOTHING;
    }

    // ---- notes and threads

    private int keepNote(Note note) {
        notes[noteCount] = note;
        noteCount++;
        return note.number;
    }

    private Note headOf(Note note) {
        return notes[note.strand.headNumber];
    }

    private boolean isSeen(int user, Note note) {
        return note.strand.isSeenBy(user, rights[user]);
    }

    private int countNotes() {
        int count = 0;
        for (int i = 0; i < noteCount; i++) {
            if (!notes[i].isGone) {
                count++;
            }
        }
        return count;
    }

    private int countStrands(int what) {
        int count = 0;
        for (int i = 0; i < noteCount; i++) {
            if (notes[i].isHeadNotGone() && notes[i].strand.isCountedAs(what)) {
                count++;
            }
        }
        return count;
    }

    private int chooseHeads(int user, boolean isAll) {
        int chosen = 0;
        for (int i = 0; i < noteCount; i++) {
            Note note = notes[i];
            if (note.isHeadNotGone() && isSeen(user, note) && (isAll || !note.strand.isSettled)) {
                putAmongChosen(note, chosen);
                chosen++;
            }
        }
        return chosen;
    }

    /** Heads come by their numbers, so one moves ahead of those alone whose anchors stand behind its own. */
    private void putAmongChosen(Note head, int chosen) {
        int at = chosen;
        while (at > 0 && head.strand.anchor.isAheadOf(chosenHeads[at - 1].strand.anchor)) {
            chosenHeads[at] = chosenHeads[at - 1];
            at--;
        }
        chosenHeads[at] = head;
    }

    // ---- the parts of the checksum

    private static long mix(long d, long x) {
        return d * DIGEST_FACTOR + x;
    }

    private long digestText(long start) {
        long d = start;
        for (int what = COUNT_USERS; what <= COUNT_LOST; what++) {
            d = mix(d, many(what));
        }
        d = mix(d, text.size());
        d = mix(d, text.edits);
        for (int place = 0; place < text.size(); place++) {
            d = mix(d, text.signIn(text.edits, place));
        }
        return d;
    }

    private long digestUser(long start, int user) {
        long d = mix(start, rights[user]);
        d = mix(d, wouldSee(user, RIGHT_READ));
        d = mix(d, over(user, 0));
        return mix(d, over(user, 5));
    }

    private long digestNote(long start, int note) {
        long d = mix(start, note);
        for (int what = 0; what <= LAST_FACT; what++) {
            d = mix(d, ofNote(note, what));
        }
        d = mix(d, wouldHeal(note));
        for (int user = 0; user < userCount; user++) {
            d = mix(d, sees(user, note) ? 1 : 0);
        }
        return d;
    }

    private long digestExport(long start) {
        long d = start;
        for (int place = 0; place < kept.size; place++) {
            for (int what = 0; what < Export.COLUMNS; what++) {
                d = mix(d, kept.columns[what][place]);
            }
        }
        return d;
    }

    /** The text in all its versions. Each sign ever put has a name, by which a later version finds it again. */
    private static final class Text {
        private final int[][] namesIn;
        private final int[] sizeIn;
        private final int[] signOfName;
        private int nameCount;
        private int edits;

        Text() {
            namesIn = new int[MAX_EDITS + 1][MAX_SIGNS];
            sizeIn = new int[MAX_EDITS + 1];
            signOfName = new int[MAX_EDITS * MAX_PUT];
        }

        int size() {
            return sizeIn[edits];
        }

        boolean hasRoomFor(int moreSigns, int moreEdits) {
            return size() + moreSigns <= MAX_SIGNS && edits + moreEdits <= MAX_EDITS;
        }

        boolean hasVersion(int asked) {
            return isWithin(asked, 0, edits);
        }

        boolean hasSignIn(int asked, int place) {
            return isWithin(place, 0, sizeIn[asked] - 1);
        }

        int signIn(int asked, int place) {
            return signOfName[namesIn[asked][place]];
        }

        int placeNow(int asked, int place) {
            int name = namesIn[asked][place];
            for (int i = 0; i < size(); i++) {
                if (namesIn[edits][i] == name) {
                    return i;
                }
            }
            return NOTHING;
        }

        boolean hasAt(int place, int[] signs) {
            if (!isWithin(place, 0, size() - signs.length)) {
                return false;
            }
            for (int i = 0; i < signs.length; i++) {
                if (signIn(edits, place + i) != signs[i]) {
                    return false;
                }
            }
            return true;
        }

        /** Makes the next version: cut signs are left out at the place, put ones, from sign on, stand there. */
        void edit(int place, int cut, int put, int sign) {
            int[] before = namesIn[edits];
            int[] after = namesIn[edits + 1];
            System.arraycopy(before, 0, after, 0, place);
            for (int i = 0; i < put; i++) {
                signOfName[nameCount] = (sign + i) % (MAX_SIGN + 1);
                after[place + i] = nameCount;
                nameCount++;
            }
            System.arraycopy(before, place + cut, after, place + put, size() - place - cut);
            sizeIn[edits + 1] = size() - cut + put;
            edits++;
        }
    }

    /** A part of the text, from one place on, ahead of another one; it is lost where the two are the same. */
    private static final class Anchor {
        private int from;
        private int to;

        Anchor(int from, int to) {
            this.from = from;
            this.to = to;
        }

        void lay(int newFrom, int newTo) {
            from = newFrom;
            to = newTo;
        }

        int size() {
            return to - from;
        }

        boolean isLost() {
            return from == to;
        }

        boolean covers(int place) {
            return place >= from && place < to;
        }

        boolean isAheadOf(Anchor other) {
            return from == other.from ? to < other.to : from < other.from;
        }

        boolean wouldBeLost(int place, int end) {
            return !isLost() && from >= place && to <= end;
        }

        void moveAsPut(int place, int many) {
            if (place <= from) {
                from += many;
                to += many;
            } else if (place < to) {
                to += many;
            }
        }

        void moveAsCut(int place, int end) {
            from -= cutAheadOf(from, place, end);
            to -= cutAheadOf(to, place, end);
        }

        private static int cutAheadOf(int border, int place, int end) {
            return Math.max(0, Math.min(border, end) - place);
        }
    }

    /** What the notes of one thread share. */
    private static final class Strand {
        private final int headNumber;
        private final int author;
        private final int view;
        private final Anchor anchor;
        private final int[] quoted;
        private boolean isSettled;
        private int proposedMany;
        private int proposedSign;

        Strand(int headNumber, int author, int view, Anchor anchor, int[] quoted) {
            this.headNumber = headNumber;
            this.author = author;
            this.view = view;
            this.anchor = anchor;
            this.quoted = quoted;
            proposedMany = NOTHING;
        }

        boolean isSeenBy(int user, int right) {
            if (right == RIGHT_NONE) {
                return false;
            }
            return view == VIEW_ALL
                    || view == VIEW_NOTERS && right >= RIGHT_NOTE
                    || author == user
                    || right == RIGHT_OWN;
        }

        boolean isCountedAs(int what) {
            return what == COUNT_THREADS
                    || what == COUNT_UNSETTLED && !isSettled
                    || what == COUNT_LOST && anchor.isLost();
        }
    }

    /** A head or a reply; it stays in the order of its thread as it is gone, and is passed over there. */
    private static final class Note {
        private final int number;
        private final int author;
        private final int content;
        private final int depth;
        private final Note parent;
        private final Strand strand;
        private Note nextInOrder;
        private int repliesNotGone;
        private boolean isEmpty;
        private boolean isGone;

        Note(int number, int author, int content, Note parent, Strand strand) {
            this.number = number;
            this.author = author;
            this.content = content;
            this.parent = parent;
            this.strand = strand;
            depth = parent == null ? 0 : parent.depth + 1;
        }

        boolean isHead() {
            return parent == null;
        }

        boolean isHeadNotGone() {
            return parent == null && !isGone;
        }

        int contentShown() {
            return isEmpty ? NOTHING : content;
        }

        /** The newest reply has the highest number, so it comes behind all that hangs on this note so far. */
        void addReply(Note reply) {
            Note last = this;
            while (last.nextInOrder != null && last.nextInOrder.depth > depth) {
                last = last.nextInOrder;
            }
            reply.nextInOrder = last.nextInOrder;
            last.nextInOrder = reply;
            repliesNotGone++;
        }

        /** Answers how many notes are gone by that: none, where a reply still hangs on this one. */
        int emptyAndDrop() {
            isEmpty = true;
            int gone = 0;
            for (Note next = this; next != null && next.isEmpty && next.repliesNotGone == 0; next = next.parent) {
                next.isGone = true;
                gone++;
                if (next.parent != null) {
                    next.parent.repliesNotGone--;
                }
            }
            return gone;
        }

        int fact(int what) {
            switch (what) {
                case 0:
                    return author;
                case 1:
                    return parent == null ? NOTHING : parent.number;
                case 2:
                    return strand.headNumber;
                case 3:
                    return contentShown();
                case 4:
                    return strand.anchor.from;
                case 5:
                    return strand.anchor.to;
                case 6:
                    return depth;
                case 7:
                    return repliesNotGone;
                case 8:
                    return strand.isSettled ? 1 : 0;
                case 9:
                    return strand.view;
                default:
                    return strand.proposedMany;
            }
        }
    }

    /** The notes of the last export, as they were then. */
    private static final class Export {
        private static final int COLUMNS = 4;
        private final int[][] columns;
        private int size;

        Export() {
            columns = new int[COLUMNS][MAX_NOTES];
        }

        void addOrder(Note head) {
            for (Note next = head; next != null; next = next.nextInOrder) {
                if (!next.isGone) {
                    columns[0][size] = next.number;
                    columns[1][size] = next.depth;
                    columns[2][size] = next.strand.anchor.from;
                    columns[3][size] = next.contentShown();
                    size++;
                }
            }
        }
    }
}
