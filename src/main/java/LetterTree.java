import java.util.ArrayList;
import java.util.Arrays;

/**
 * A store in a tree of pages whose writes are letters that sink from the root's room to the
 * leaves. Words in capitals are those of the document.
 */
public final class LetterTree {
    public static final int NONE = -1, BAD = -2, FULL = -3, DOWN = -4, FELL = -5;

    private static final int PUT = 1, APPEND = 2, SWAP = 3, DROP = 4, SWEEP = 5;
    private static final int MOST_TAPE = 40, MOST_FEED = 8, MOST_ROW = 20;
    private static final int MOST_ENTRIES = 6, MOST_KIDS = 5, MOST_ROOM = 8;
    private static final int PLACES = 1000, MOST_PICTURES = 12, MOST_FALL = 10000;
    private static final long FIRST_KEY = 0x8000000000000000L, LAST_KEY = 0x7fffffffffffffffL;
    private static final byte[] NO_BYTES = {};

    // An object is used for 512 calls: a later WRITE is free to be refused, and so all stays small.
    private static final int MOST_WRITES = 512;
    // 512 WRITES make a tree of some seven levels; what would go deeper is refused.
    private static final int MOST_DEPTH = 40;
    // Far above the turns that the LETTERS of 512 WRITES can need.
    private static final int MOST_TURNS = 1000000;

    private final Tape tape = new Tape();
    private final Disk store = new Disk();
    private final Tree tree = new Tree();
    private final Entries map = new Entries();
    private final ArrayList<Picture> pictures = new ArrayList<>();
    private int greatest;
    private int latest;
    private int generation;
    private long foundKey;
    private boolean down;

    /** An empty MAP; HEADS are none. */
    public LetterTree() {
        startAnew();
    }

    // ---- the tape

    public int feed(long w, int n) {
        if (n < 1 || n > MOST_FEED || tape.size + n > MOST_TAPE) {
            return BAD;
        }
        tape.addBytes(w, n);
        return tape.size;
    }

    public int cut(int n) {
        if (n < 0 || n > tape.size) {
            return BAD;
        }
        tape.size = n;
        return n;
    }

    public int byteAt(int i) {
        if (i < 0 || i >= tape.size) {
            return NONE;
        }
        return tape.bytes[i] & 255;
    }

    // ---- writes

    public int put(long key) {
        int refusal = writeRefusal(tape.size > MOST_ROW);
        if (refusal != 0) {
            return refusal;
        }
        int was = map.rowOf(key) == null ? 0 : 1;
        write(PUT, key, key, 0);
        return was;
    }

    public int append(long key) {
        int refusal = writeRefusal(tape.size > MOST_ROW);
        if (refusal != 0) {
            return refusal;
        }
        write(APPEND, key, key, 0);
        byte[] row = map.rowOf(key);
        return row == null ? 0 : row.length;
    }

    public int swap(long key, int n) {
        boolean bad = n < 0 || n > MOST_ROW || n > tape.size || tape.size - n > MOST_ROW;
        int refusal = writeRefusal(bad);
        if (refusal != 0) {
            return refusal;
        }
        return write(SWAP, key, key, n);
    }

    public int drop(long key) {
        int refusal = writeRefusal(false);
        if (refusal != 0) {
            return refusal;
        }
        return write(DROP, key, key, 0);
    }

    public int sweep(long a, long b) {
        int refusal = writeRefusal(b < a);
        if (refusal != 0) {
            return refusal;
        }
        return write(SWEEP, a, b, 0);
    }

    // ---- the map

    public int get(long key) {
        if (down) {
            return DOWN;
        }
        return load(map.rowOf(key));
    }

    public int has(long key) {
        if (down) {
            return DOWN;
        }
        return map.rowOf(key) == null ? 0 : 1;
    }

    public int next(long key) {
        if (down) {
            return DOWN;
        }
        return findEntry(map.firstNotBelow(key));
    }

    public int prior(long key) {
        if (down) {
            return DOWN;
        }
        int at = map.firstNotBelow(key);
        return findEntry(map.hasAt(at, key) ? at : at - 1);
    }

    public long found() {
        return foundKey;
    }

    public int count() {
        return down ? DOWN : map.list.size();
    }

    // ---- the tree

    public int sink() {
        return down ? DOWN : tree.sinkRoot();
    }

    public int settle() {
        return down ? DOWN : tree.settleAll();
    }

    public int pages() {
        return down ? DOWN : Tree.pagesIn(tree.root, 0);
    }

    public int height() {
        return down ? DOWN : tree.levels();
    }

    public int letters() {
        return down ? DOWN : Tree.lettersIn(tree.root, 0);
    }

    public int page(int i, int what) {
        if (down) {
            return DOWN;
        }
        Page page = Tree.pageAt(tree.root, i, 0);
        if (page == null) {
            return NONE;
        }
        switch (what) {
            case 0:
                return page.isLeaf() ? 0 : 1;
            case 1:
                return page.width();
            case 2:
                return page.room.size();
            case 3:
                return page.place;
            default:
                return NONE;
        }
    }

    public int border(int i, int k) {
        if (down) {
            return DOWN;
        }
        Page page = Tree.pageAt(tree.root, i, 0);
        if (page == null || k < 1) {
            return NONE;
        }
        if (page.isLeaf() && k <= page.entries.list.size()) {
            foundKey = page.entries.list.get(k - 1).key;
            return 1;
        }
        if (k < page.kids.size()) {
            foundKey = page.kids.get(k).from;
            return 1;
        }
        return NONE;
    }

    public int letter(int i, int k, int what) {
        if (down) {
            return DOWN;
        }
        Page page = Tree.pageAt(tree.root, i, 0);
        if (page == null || k < 0 || k >= page.room.size()) {
            return NONE;
        }
        Letter letter = page.room.get(k);
        if (what == 0) {
            return letter.kind;
        }
        return what == 1 ? letter.number : NONE;
    }

    public int met(long key) {
        return down ? DOWN : tree.lettersOnWay(key);
    }

    // ---- the disk

    public int sync() {
        if (down) {
            return DOWN;
        }
        int changed = Tree.changedIn(tree.root, 0);
        if (freePlaces() < changed) {
            return FULL;
        }
        return writeAll() ? changed + 1 : FELL;
    }

    public int picture() {
        if (down) {
            return DOWN;
        }
        if (pictures.size() >= MOST_PICTURES || freePlaces() < Tree.changedIn(tree.root, 0)) {
            return FULL;
        }
        greatest++;
        pictures.add(new Picture(greatest, tree.root));
        return writeAll() ? greatest : FELL;
    }

    public int look(int picture, long key) {
        if (down) {
            return DOWN;
        }
        int at = pictureIndex(picture);
        if (at < 0) {
            return BAD;
        }
        return load(Tree.rowIn(pictures.get(at).root, key, 0));
    }

    public int release(int picture) {
        if (down) {
            return DOWN;
        }
        int at = pictureIndex(picture);
        if (at < 0) {
            return NONE;
        }
        pictures.remove(at);
        return pictures.size();
    }

    public int pictured(int k) {
        if (down) {
            return DOWN;
        }
        if (k < 0 || k >= pictures.size()) {
            return NONE;
        }
        return pictures.get(k).number;
    }

    public int free() {
        return down ? DOWN : freePlaces();
    }

    public int fall(int n) {
        if (n < 0 || n > MOST_FALL) {
            return BAD;
        }
        store.fallDue = n;
        return n;
    }

    public int crash() {
        if (down) {
            return DOWN;
        }
        goDown();
        return 0;
    }

    public int rise() {
        if (!down) {
            return BAD;
        }
        startAnew();
        Head head = store.latestHead();
        if (head != null) {
            adopt(head);
            greatest = store.greatestPicture();
        }
        return generation;
    }

    public int disk(int h, int what) {
        if (h < 0 || h > 1 || what < 0 || what > 3) {
            return NONE;
        }
        Head head = store.heads[h];
        if (head == null) {
            return 0;
        }
        switch (what) {
            case 0:
                return head.generation;
            case 1:
                return head.number;
            case 2:
                return head.pictures.size();
            default:
                return Tree.pagesIn(head.root, 0);
        }
    }

    public int bend(int h) {
        if (h < 0 || h > 1) {
            return NONE;
        }
        int was = store.heads[h] == null ? 0 : 1;
        store.heads[h] = null;
        return was;
    }

    public int writes(int what) {
        if (what < 0 || what >= store.writings.length) {
            return NONE;
        }
        return store.writings[what];
    }

    public int number(int what) {
        if (down) {
            return DOWN;
        }
        if (what == 0) {
            return latest;
        }
        return what == 1 ? generation : NONE;
    }

    // ---- what the calls share

    /** 0 if a WRITE is not refused. */
    private int writeRefusal(boolean bad) {
        if (down) {
            return DOWN;
        }
        if (bad) {
            return BAD;
        }
        return latest >= MOST_WRITES ? FULL : 0;
    }

    /** Makes the next LETTER and gives it to THE MAP and to the root: how many KEYS it changed. */
    private int write(int kind, long key, long last, int firstBytes) {
        byte[] first = NO_BYTES;
        byte[] row = NO_BYTES;
        if (kind == PUT || kind == APPEND || kind == SWAP) {
            first = tape.part(0, firstBytes);
            row = tape.part(firstBytes, tape.size);
            tape.size = 0;
        }
        latest++;
        Letter letter = new Letter(kind, latest, key, last, first, row);
        ArrayList<Letter> letters = new ArrayList<>();
        letters.add(letter);
        tree.root = Tree.give(tree.root, letters, 0);
        tree.partRoot();
        return map.act(letter);
    }

    /** THE TAPE becomes the row; NONE if there is none. */
    private int load(byte[] row) {
        if (row == null) {
            return NONE;
        }
        tape.become(row);
        return tape.size;
    }

    private int findEntry(int at) {
        if (at < 0 || at >= map.list.size()) {
            return 0;
        }
        foundKey = map.list.get(at).key;
        return 1;
    }

    private int pictureIndex(int picture) {
        for (int i = 0; i < pictures.size(); i++) {
            if (pictures.get(i).number == picture) {
                return i;
            }
        }
        return -1;
    }

    private int freePlaces() {
        store.markTaken(tree.root, pictures);
        return PLACES - store.takenPlaces;
    }

    /** Behind freePlaces(), which tells the disk what is TAKEN: whether no FALL came. */
    private boolean writeAll() {
        if (!Disk.writePages(store, tree.root, 0)) {
            goDown();
            return false;
        }
        Head head = new Head(generation + 1, latest, tree.root, greatest);
        copyPictures(pictures, head.pictures);
        if (!store.writeHead(head)) {
            goDown();
            return false;
        }
        generation++;
        return true;
    }

    private void goDown() {
        startAnew();
        down = true;
    }

    private void startAnew() {
        tree.root = new Page(FIRST_KEY, new Entries());
        map.list.clear();
        pictures.clear();
        greatest = 0;
        latest = 0;
        generation = 0;
        down = false;
    }

    private void adopt(Head head) {
        tree.root = head.root;
        Tree.gather(head.root, map, 0);
        copyPictures(head.pictures, pictures);
        latest = head.number;
        generation = head.generation;
    }

    private static void copyPictures(ArrayList<Picture> from, ArrayList<Picture> to) {
        for (int i = 0; i < from.size(); i++) {
            to.add(from.get(i));
        }
    }

    private static final class Tape {
        final byte[] bytes = new byte[MOST_TAPE];
        int size;

        void addBytes(long w, int n) {
            for (int i = n - 1; i >= 0 && size < MOST_TAPE; i--) {
                bytes[size] = (byte) (w >>> (8 * i));
                size++;
            }
        }

        byte[] part(int from, int to) {
            if (from < 0 || from >= to || to > size) {
                return NO_BYTES;
            }
            return Arrays.copyOfRange(bytes, from, to);
        }

        void become(byte[] row) {
            size = Math.min(row.length, MOST_TAPE);
            System.arraycopy(row, 0, bytes, 0, size);
        }
    }

    private static final class Letter {
        final int kind;
        final int number;
        final long key;
        // Of a SWEEP its last KEY; of all others their KEY, so that one test serves all kinds.
        final long last;
        // What the ROW must be for a SWAP.
        final byte[] first;
        final byte[] row;

        Letter(int kind, int number, long key, long last, byte[] first, byte[] row) {
            this.kind = kind;
            this.number = number;
            this.key = key;
            this.last = last;
            this.first = first;
            this.row = row;
        }

        boolean meets(long other) {
            return key <= other && other <= last;
        }

        /** Whether it does something to a KEY with this row (null: the KEY is not there). */
        boolean changes(byte[] old) {
            if (kind == PUT || kind == APPEND) {
                return true;
            }
            if (kind != SWAP || old == null) {
                return old != null;
            }
            boolean same = old.length == first.length;
            for (int i = 0; same && i < old.length; i++) {
                same = old[i] == first[i];
            }
            return same;
        }

        /** The row that it makes of one that it changes (null: the KEY is not there). */
        byte[] rowAfter(byte[] old) {
            if (kind == DROP || kind == SWEEP) {
                return null;
            }
            if (kind != APPEND || old == null) {
                return row;
            }
            int size = Math.min(MOST_ROW, old.length + row.length);
            byte[] both = Arrays.copyOf(old, size);
            for (int i = old.length; i < size; i++) {
                both[i] = row[i - old.length];
            }
            return both;
        }
    }

    private static final class Entry {
        final long key;
        final byte[] row;

        Entry(long key, byte[] row) {
            this.key = key;
            this.row = row;
        }
    }

    /** ENTRIES by their KEYS: those of a LEAF, and THE MAP itself. */
    private static final class Entries {
        final ArrayList<Entry> list = new ArrayList<>();

        int firstNotBelow(long key) {
            int low = 0;
            int high = list.size();
            for (int halving = 0; halving < 32 && low < high; halving++) {
                int middle = (low + high) / 2;
                if (list.get(middle).key < key) {
                    low = middle + 1;
                } else {
                    high = middle;
                }
            }
            return low;
        }

        boolean hasAt(int at, long key) {
            return at >= 0 && at < list.size() && list.get(at).key == key;
        }

        /** Null if the KEY is not there. */
        byte[] rowOf(long key) {
            int at = firstNotBelow(key);
            return hasAt(at, key) ? list.get(at).row : null;
        }

        boolean isChangedBy(Letter letter) {
            int at = firstNotBelow(letter.key);
            if (at < list.size() && letter.meets(list.get(at).key)) {
                return letter.changes(list.get(at).row);
            }
            return letter.changes(null);
        }

        /** ACTS the LETTER: how many ENTRIES it changed. */
        int act(Letter letter) {
            int at = firstNotBelow(letter.key);
            if (letter.kind == DROP || letter.kind == SWEEP) {
                return removeFrom(at, letter.last);
            }
            boolean there = hasAt(at, letter.key);
            byte[] old = there ? list.get(at).row : null;
            if (!letter.changes(old)) {
                return 0;
            }
            Entry entry = new Entry(letter.key, letter.rowAfter(old));
            if (there) {
                list.set(at, entry);
            } else {
                list.add(at, entry);
            }
            return 1;
        }

        private int removeFrom(int at, long last) {
            int all = list.size();
            for (int i = 0; i < all && at < list.size() && list.get(at).key <= last; i++) {
                list.remove(at);
            }
            return all - list.size();
        }
    }

    /**
     * A LEAF has no KIDS. A PAGE with a PLACE is never changed again, as HEADS and PICTURES may
     * have it: what would change it changes a copy, so that CHANGED is to be without a PLACE.
     */
    private static final class Page {
        // The first KEY of its SPAN, which is the BORDER ahead of it.
        final long from;
        final Entries entries;
        final ArrayList<Page> kids = new ArrayList<>();
        final ArrayList<Letter> room = new ArrayList<>();
        int place = NONE;

        Page(long from, Entries entries) {
            this.from = from;
            this.entries = entries;
        }

        boolean isLeaf() {
            return kids.isEmpty();
        }

        /** How many ENTRIES or KIDS: it has none of the others. */
        int width() {
            return entries.list.size() + kids.size();
        }

        boolean isTooBig() {
            return width() > (isLeaf() ? MOST_ENTRIES : MOST_KIDS);
        }

        /** Itself if it is CHANGED, else a copy that is. */
        Page opened() {
            if (place == NONE) {
                return this;
            }
            Page copy = new Page(from, new Entries());
            copyInto(copy, 0, width());
            for (int i = 0; i < room.size(); i++) {
                copy.room.add(room.get(i));
            }
            return copy;
        }

        private void copyInto(Page other, int begin, int end) {
            for (int i = begin; i < end && i < entries.list.size(); i++) {
                other.entries.list.add(entries.list.get(i));
            }
            for (int i = begin; i < end && i < kids.size(); i++) {
                other.kids.add(kids.get(i));
            }
        }

        /** The last KEY of a KID's SPAN; what is in the ROOM is cut at its own SPAN already. */
        long lastKeyOf(int kid) {
            return kid + 1 < kids.size() ? kids.get(kid + 1).from - 1 : LAST_KEY;
        }

        int kidFor(long key) {
            int kid = 0;
            for (int i = 1; i < kids.size() && kids.get(i).from <= key; i++) {
                kid = i;
            }
            return kid;
        }

        /** Of several LETTERS the first that does something to a LEAF finds it as it is now. */
        boolean isChangedBy(ArrayList<Letter> letters) {
            for (int i = 0; i < letters.size(); i++) {
                if (!isLeaf() || entries.isChangedBy(letters.get(i))) {
                    return true;
                }
            }
            return false;
        }

        void takeIn(ArrayList<Letter> letters) {
            for (int i = 0; i < letters.size(); i++) {
                Letter letter = letters.get(i);
                if (isLeaf()) {
                    entries.act(letter);
                } else if (letter.kind == SWEEP) {
                    takeInParts(letter);
                } else {
                    room.add(letter);
                }
            }
        }

        private void takeInParts(Letter sweep) {
            for (int i = 0; i < kids.size(); i++) {
                long a = Math.max(sweep.key, kids.get(i).from);
                long b = Math.min(sweep.last, lastKeyOf(i));
                if (a <= b) {
                    room.add(new Letter(SWEEP, sweep.number, a, b, NO_BYTES, NO_BYTES));
                }
            }
        }

        /** The first of the KIDS FOR which most LETTERS are. */
        int fullestKid() {
            int fullest = 0;
            int most = 0;
            for (int i = 0; i < kids.size(); i++) {
                int letters = lettersFrom(kids.get(i).from, lastKeyOf(i));
                if (letters > most) {
                    most = letters;
                    fullest = i;
                }
            }
            return fullest;
        }

        private int lettersFrom(long a, long b) {
            int letters = 0;
            for (int i = 0; i < room.size(); i++) {
                long key = room.get(i).key;
                if (a <= key && key <= b) {
                    letters++;
                }
            }
            return letters;
        }

        /** Moves the LETTERS whose KEY is from a to b, in their order. */
        void moveLetters(long a, long b, ArrayList<Letter> to) {
            ArrayList<Letter> staying = new ArrayList<>();
            for (int i = 0; i < room.size(); i++) {
                Letter letter = room.get(i);
                if (a <= letter.key && letter.key <= b) {
                    to.add(letter);
                } else {
                    staying.add(letter);
                }
            }
            room.clear();
            for (int i = 0; i < staying.size(); i++) {
                room.add(staying.get(i));
            }
        }

        /** If a KID is too big, its parts are KIDS in its place. */
        void partKid(int at) {
            if (at < 0 || at >= kids.size() || !kids.get(at).isTooBig()) {
                return;
            }
            Page kid = kids.get(at);
            int most = kid.isLeaf() ? MOST_ENTRIES : MOST_KIDS;
            int all = kid.width();
            int parts = (all + most - 1) / most;
            kids.remove(at);
            int begin = 0;
            for (int i = 0; i < parts; i++) {
                int end = begin + (all - begin + parts - i - 1) / (parts - i);
                kids.add(at + i, kid.partOf(begin, end));
                begin = end;
            }
        }

        private Page partOf(int begin, int end) {
            long first = from;
            if (begin > 0 && begin < width()) {
                first = isLeaf() ? entries.list.get(begin).key : kids.get(begin).from;
            }
            Page part = new Page(first, new Entries());
            copyInto(part, begin, end);
            moveLetters(first, lastKeyOf(end - 1), part.room);
            return part;
        }
    }

    private static final class Tree {
        Page root;

        int sinkRoot() {
            if (root.room.isEmpty()) {
                return 0;
            }
            root = root.opened();
            int sunk = sinkPage(root, 0);
            partRoot();
            return sunk;
        }

        /** The PAGE that has taken the LETTERS; the same one if none of them changes it. */
        private static Page give(Page page, ArrayList<Letter> letters, int depth) {
            if (!page.isChangedBy(letters)) {
                return page;
            }
            Page open = page.opened();
            open.takeIn(letters);
            // Each SINK takes a LETTER at least out of the ROOM.
            int most = open.room.size();
            for (int i = 0; i < most && open.room.size() > MOST_ROOM; i++) {
                sinkPage(open, depth);
            }
            return open;
        }

        /** A PAGE that is CHANGED already SINKS: how many LETTERS it had for that KID. */
        private static int sinkPage(Page page, int depth) {
            int at = page.fullestKid();
            if (depth >= MOST_DEPTH || at >= page.kids.size()) {
                return 0;
            }
            Page kid = page.kids.get(at);
            ArrayList<Letter> sinking = new ArrayList<>();
            page.moveLetters(kid.from, page.lastKeyOf(at), sinking);
            page.kids.set(at, give(kid, sinking, depth + 1));
            page.partKid(at);
            return sinking.size();
        }

        private void partRoot() {
            for (int i = 0; i < MOST_DEPTH && root.isTooBig(); i++) {
                Page above = new Page(FIRST_KEY, new Entries());
                above.kids.add(root);
                above.partKid(0);
                root = above;
            }
        }

        int settleAll() {
            int sinks = 0;
            int sunk = 1;
            for (int i = 0; i < MOST_TURNS && sunk > 0 && lettersIn(root, 0) > 0; i++) {
                root = root.opened();
                sunk = settleBelow(root, 0);
                sinks += sunk;
                partRoot();
            }
            return sinks;
        }

        /**
         * SINKS, by number, what has LETTERS from a PAGE on that is CHANGED already, until there
         * are none or the PAGE is too big, as it must be PARTED ahead of the next SINK then.
         */
        private static int settleBelow(Page page, int depth) {
            if (depth >= MOST_DEPTH) {
                return 0;
            }
            int sinks = 0;
            int most = page.room.size();
            for (int i = 0; i < most && !page.room.isEmpty() && !page.isTooBig(); i++) {
                sinkPage(page, depth);
                sinks++;
            }
            int at = 0;
            for (int i = 0; i < MOST_TURNS && at < page.kids.size() && !page.isTooBig(); i++) {
                Page kid = page.kids.get(at);
                int sunk = 0;
                if (lettersIn(kid, 0) > 0) {
                    kid = kid.opened();
                    page.kids.set(at, kid);
                    sunk = settleBelow(kid, depth + 1);
                    page.partKid(at);
                }
                sinks += sunk;
                // The parts of a KID that was PARTED lie at its place and may have LETTERS still.
                if (sunk == 0) {
                    at++;
                }
            }
            return sinks;
        }

        int levels() {
            int levels = 1;
            Page page = root;
            for (int i = 0; i < MOST_DEPTH && !page.isLeaf(); i++) {
                page = page.kids.get(0);
                levels++;
            }
            return levels;
        }

        int lettersOnWay(long key) {
            int letters = 0;
            Page page = root;
            for (int i = 0; i < MOST_DEPTH && !page.isLeaf(); i++) {
                for (int k = 0; k < page.room.size(); k++) {
                    if (page.room.get(k).meets(key)) {
                        letters++;
                    }
                }
                page = page.kids.get(page.kidFor(key));
            }
            return letters;
        }

        private static int pagesIn(Page page, int depth) {
            int pages = 1;
            for (int i = 0; i < page.kids.size() && depth < MOST_DEPTH; i++) {
                pages += pagesIn(page.kids.get(i), depth + 1);
            }
            return pages;
        }

        private static int lettersIn(Page page, int depth) {
            int letters = page.room.size();
            for (int i = 0; i < page.kids.size() && depth < MOST_DEPTH; i++) {
                letters += lettersIn(page.kids.get(i), depth + 1);
            }
            return letters;
        }

        private static int changedIn(Page page, int depth) {
            // A KID that is CHANGED would make this PAGE so, too.
            if (page.place != NONE) {
                return 0;
            }
            int changed = 1;
            for (int i = 0; i < page.kids.size() && depth < MOST_DEPTH; i++) {
                changed += changedIn(page.kids.get(i), depth + 1);
            }
            return changed;
        }

        /** PAGE i, counted from this one on, or null. */
        private static Page pageAt(Page page, int i, int depth) {
            if (i == 0) {
                return page;
            }
            int ahead = 1;
            for (int k = 0; i > 0 && k < page.kids.size() && depth < MOST_DEPTH; k++) {
                Page kid = page.kids.get(k);
                int pages = pagesIn(kid, 0);
                if (i < ahead + pages) {
                    return pageAt(kid, i - ahead, depth + 1);
                }
                ahead += pages;
            }
            return null;
        }

        /** The row that a KEY has by a LEAF and the LETTERS ON THE WAY to it, or null. */
        private static byte[] rowIn(Page page, long key, int depth) {
            if (page.isLeaf() || depth >= MOST_DEPTH) {
                return page.entries.rowOf(key);
            }
            byte[] row = rowIn(page.kids.get(page.kidFor(key)), key, depth + 1);
            // The LETTERS of a PAGE are later ones than all below it.
            for (int i = 0; i < page.room.size(); i++) {
                Letter letter = page.room.get(i);
                if (letter.meets(key) && letter.changes(row)) {
                    row = letter.rowAfter(row);
                }
            }
            return row;
        }

        /** Puts all that the PAGE and those below it make of its SPAN behind what is there. */
        private static void gather(Page page, Entries into, int depth) {
            for (int i = 0; i < page.entries.list.size(); i++) {
                into.list.add(page.entries.list.get(i));
            }
            for (int i = 0; i < page.kids.size() && depth < MOST_DEPTH; i++) {
                gather(page.kids.get(i), into, depth + 1);
            }
            for (int i = 0; i < page.room.size(); i++) {
                into.act(page.room.get(i));
            }
        }
    }

    private static final class Picture {
        final int number;
        final Page root;

        Picture(int number, Page root) {
            this.number = number;
            this.root = root;
        }
    }

    private static final class Head {
        final int generation;
        final int number;
        final Page root;
        final int greatest;
        final ArrayList<Picture> pictures = new ArrayList<>();

        Head(int generation, int number, Page root, int greatest) {
            this.generation = generation;
            this.number = number;
            this.root = root;
            this.greatest = greatest;
        }
    }

    private static final class Disk {
        final Head[] heads = new Head[2];
        // Of LEAVES, of INNER PAGES, of HEADS, and those that were TORN.
        final int[] writings = new int[4];
        final byte[] taken = new byte[PLACES];
        int takenPlaces;
        // No PLACE below this one is free.
        int lowest;
        // 0: none.
        int fallDue;

        void markTaken(Page root, ArrayList<Picture> pictures) {
            Arrays.fill(taken, (byte) 0);
            takenPlaces = 0;
            lowest = 0;
            markPages(this, root, 0);
            markPictures(pictures);
            for (int h = 0; h < heads.length; h++) {
                Head head = heads[h];
                if (head != null) {
                    markPages(this, head.root, 0);
                    markPictures(head.pictures);
                }
            }
        }

        private void markPictures(ArrayList<Picture> pictures) {
            for (int i = 0; i < pictures.size(); i++) {
                markPages(this, pictures.get(i).root, 0);
            }
        }

        private static void markPages(Disk disk, Page page, int depth) {
            if (page.place >= 0 && page.place < PLACES) {
                // Who has a PAGE has all below it: they were marked with it.
                if (disk.taken[page.place] != 0) {
                    return;
                }
                disk.taken[page.place] = 1;
                disk.takenPlaces++;
            }
            for (int i = 0; i < page.kids.size() && depth < MOST_DEPTH; i++) {
                markPages(disk, page.kids.get(i), depth + 1);
            }
        }

        /** Writes what is CHANGED, KIDS ahead of their PAGE: whether no FALL came. */
        private static boolean writePages(Disk disk, Page page, int depth) {
            if (page.place != NONE) {
                return true;
            }
            for (int i = 0; i < page.kids.size() && depth < MOST_DEPTH; i++) {
                if (!writePages(disk, page.kids.get(i), depth + 1)) {
                    return false;
                }
            }
            return disk.writePage(page);
        }

        private boolean writePage(Page page) {
            writings[page.isLeaf() ? 0 : 1]++;
            if (fallComes()) {
                return false;
            }
            while (lowest < PLACES && taken[lowest] != 0) {
                lowest++;
            }
            if (lowest < PLACES) {
                page.place = lowest;
                taken[lowest] = 1;
            }
            return true;
        }

        boolean writeHead(Head head) {
            int h = head.generation & 1;
            writings[2]++;
            boolean torn = fallComes();
            heads[h] = torn ? null : head;
            return !torn;
        }

        /** Counts a writing down: whether the FALL that is due comes at it. */
        private boolean fallComes() {
            if (fallDue == 0) {
                return false;
            }
            fallDue--;
            if (fallDue > 0) {
                return false;
            }
            writings[3]++;
            return true;
        }

        /** The one of greatest GENERATION, or null. */
        Head latestHead() {
            Head even = heads[0];
            Head odd = heads[1];
            if (even == null || odd == null) {
                return even == null ? odd : even;
            }
            return even.generation > odd.generation ? even : odd;
        }

        int greatestPicture() {
            int greatest = 0;
            for (int h = 0; h < heads.length; h++) {
                if (heads[h] != null) {
                    greatest = Math.max(greatest, heads[h].greatest);
                }
            }
            return greatest;
        }
    }
}
