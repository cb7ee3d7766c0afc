import java.util.ArrayList;
import java.util.Arrays;
import java.util.List;
import java.util.Map;
import java.util.TreeMap;
import java.util.TreeSet;

/**
 * The document told once more, in the slowest and plainest way: THE MAP is made anew of all LETTERS
 * at each call, HEADS and PICTURES have whole copies, CHANGED is a mark, SPANS are handed down.
 * The random runs hold LetterTree against it.
 */
final class PlainStore {
    static final int NONE = -1, BAD = -2, FULL = -3, DOWN = -4, FELL = -5;

    static final class Letter {
        int kind;
        int number;
        long a;
        long b;
        byte[] first;
        byte[] row;

        Letter part(long low, long high) {
            Letter part = new Letter();
            part.kind = kind;
            part.number = number;
            part.a = Math.max(a, low);
            part.b = Math.min(b, high);
            return part;
        }
    }

    static final class Page {
        boolean leaf;
        boolean touched = true;
        int place = NONE;
        TreeMap<Long, byte[]> entries = new TreeMap<>();
        List<Page> kids = new ArrayList<>();
        List<Long> borders = new ArrayList<>();
        List<Letter> room = new ArrayList<>();

        boolean changed() {
            boolean is = touched;
            for (Page kid : kids) {
                is |= kid.changed();
            }
            return is;
        }

        Page copy() {
            Page copy = new Page();
            copy.leaf = leaf;
            copy.touched = touched;
            copy.place = place;
            copy.entries.putAll(entries);
            for (Page kid : kids) {
                copy.kids.add(kid.copy());
            }
            copy.borders.addAll(borders);
            copy.room.addAll(room);
            return copy;
        }

        void list(List<Page> into) {
            into.add(this);
            for (Page kid : kids) {
                kid.list(into);
            }
        }

        boolean tooBig() {
            return leaf ? entries.size() > 6 : kids.size() > 5;
        }

        long low(int kid, long own) {
            return kid == 0 ? own : borders.get(kid - 1);
        }

        long high(int kid, long own) {
            return kid == kids.size() - 1 ? own : borders.get(kid) - 1;
        }

        int kidWith(long key) {
            int kid = 0;
            while (kid < borders.size() && borders.get(kid) <= key) {
                kid++;
            }
            return kid;
        }
    }

    static final class Picture {
        int number;
        Page root;
        List<Letter> log;
    }

    static final class Head {
        int generation;
        Page root;
        List<Letter> log;
        List<Picture> pictures;
        int greatest;
    }

    private final List<Integer> tape = new ArrayList<>();
    private long found;
    private final Head[] heads = new Head[2];
    private final int[] writes = new int[4];
    private int fallIn;
    private boolean down;

    private Page root;
    private List<Letter> log;
    private List<Picture> pictures;
    private int greatest;
    private int generation;

    PlainStore() {
        fresh();
    }

    private void fresh() {
        root = new Page();
        root.leaf = true;
        log = new ArrayList<>();
        pictures = new ArrayList<>();
        greatest = 0;
        generation = 0;
    }

    // ---- the tape

    int feed(long w, int n) {
        if (n < 1 || n > 8 || tape.size() + n > 40) {
            return BAD;
        }
        String hex = String.format("%016x", w);
        for (int i = 8 - n; i < 8; i++) {
            tape.add(Integer.parseInt(hex.substring(2 * i, 2 * i + 2), 16));
        }
        return tape.size();
    }

    int cut(int n) {
        if (n < 0 || n > tape.size()) {
            return BAD;
        }
        tape.subList(n, tape.size()).clear();
        return n;
    }

    int byteAt(int i) {
        return i < 0 || i >= tape.size() ? NONE : tape.get(i);
    }

    private byte[] bytes(int from, int to) {
        byte[] some = new byte[to - from];
        for (int i = from; i < to; i++) {
            some[i - from] = tape.get(i).byteValue();
        }
        return some;
    }

    private int load(byte[] row) {
        if (row == null) {
            return NONE;
        }
        tape.clear();
        for (byte b : row) {
            tape.add(b & 255);
        }
        return row.length;
    }

    // ---- writes

    /** Whether it is done. */
    private static boolean act(TreeMap<Long, byte[]> entries, Letter letter) {
        byte[] old = entries.get(letter.a);
        switch (letter.kind) {
            case 1:
                entries.put(letter.a, letter.row);
                return true;
            case 2:
                if (old == null) {
                    entries.put(letter.a, letter.row);
                } else {
                    byte[] both = Arrays.copyOf(old, old.length + letter.row.length);
                    System.arraycopy(letter.row, 0, both, old.length, letter.row.length);
                    entries.put(letter.a, both.length > 20 ? Arrays.copyOf(both, 20) : both);
                }
                return true;
            case 3:
                if (old == null || !Arrays.equals(old, letter.first)) {
                    return false;
                }
                entries.put(letter.a, letter.row);
                return true;
            case 4:
                return entries.remove(letter.a) != null;
            default:
                Map<Long, byte[]> gone = entries.subMap(letter.a, true, letter.b, true);
                boolean some = !gone.isEmpty();
                gone.clear();
                return some;
        }
    }

    private static TreeMap<Long, byte[]> mapOf(List<Letter> log) {
        TreeMap<Long, byte[]> map = new TreeMap<>();
        for (Letter letter : log) {
            act(map, letter);
        }
        return map;
    }

    private void write(int kind, long a, long b, int n) {
        Letter letter = new Letter();
        letter.kind = kind;
        letter.a = a;
        letter.b = b;
        letter.number = log.size() + 1;
        if (kind <= 3) {
            letter.first = bytes(0, n);
            letter.row = bytes(n, tape.size());
            tape.clear();
        }
        log.add(letter);
        give(root, List.of(letter), Long.MIN_VALUE, Long.MAX_VALUE);
        partRoot();
    }

    int put(long key) {
        if (down) {
            return DOWN;
        }
        if (tape.size() > 20) {
            return BAD;
        }
        int was = has(key);
        write(1, key, key, 0);
        return was;
    }

    int append(long key) {
        if (down) {
            return DOWN;
        }
        if (tape.size() > 20) {
            return BAD;
        }
        write(2, key, key, 0);
        return mapOf(log).get(key).length;
    }

    int swap(long key, int n) {
        if (down) {
            return DOWN;
        }
        if (n < 0 || n > 20 || tape.size() < n || tape.size() > n + 20) {
            return BAD;
        }
        byte[] old = mapOf(log).get(key);
        int done = old != null && Arrays.equals(old, bytes(0, n)) ? 1 : 0;
        write(3, key, key, n);
        return done;
    }

    int drop(long key) {
        if (down) {
            return DOWN;
        }
        int was = has(key);
        write(4, key, key, 0);
        return was;
    }

    int sweep(long a, long b) {
        if (down) {
            return DOWN;
        }
        if (b < a) {
            return BAD;
        }
        int before = count();
        write(5, a, b, 0);
        return before - count();
    }

    // ---- the map

    int get(long key) {
        return down ? DOWN : load(mapOf(log).get(key));
    }

    int has(long key) {
        return down ? DOWN : mapOf(log).containsKey(key) ? 1 : 0;
    }

    private int find(Long key) {
        if (key == null) {
            return 0;
        }
        found = key;
        return 1;
    }

    int next(long key) {
        return down ? DOWN : find(mapOf(log).ceilingKey(key));
    }

    int prior(long key) {
        return down ? DOWN : find(mapOf(log).floorKey(key));
    }

    long found() {
        return found;
    }

    int count() {
        return down ? DOWN : mapOf(log).size();
    }

    // ---- the tree

    private void give(Page page, List<Letter> letters, long low, long high) {
        for (Letter letter : letters) {
            if (page.leaf) {
                page.touched |= act(page.entries, letter);
                continue;
            }
            page.touched = true;
            if (letter.kind != 5) {
                page.room.add(letter);
                continue;
            }
            for (int i = 0; i < page.kids.size(); i++) {
                Letter part = letter.part(page.low(i, low), page.high(i, high));
                if (part.a <= part.b) {
                    page.room.add(part);
                }
            }
        }
        while (page.room.size() > 8) {
            sinks(page, low, high);
        }
    }

    private int sinks(Page page, long low, long high) {
        int[] letters = new int[page.kids.size()];
        for (Letter letter : page.room) {
            letters[page.kidWith(letter.a)]++;
        }
        int best = 0;
        for (int i = 1; i < letters.length; i++) {
            if (letters[i] > letters[best]) {
                best = i;
            }
        }
        List<Letter> sunk = new ArrayList<>();
        for (Letter letter : page.room) {
            if (page.kidWith(letter.a) == best) {
                sunk.add(letter);
            }
        }
        page.room.removeAll(sunk);
        page.touched = true;
        give(page.kids.get(best), sunk, page.low(best, low), page.high(best, high));
        part(page, best);
        return sunk.size();
    }

    private static void part(Page above, int at) {
        Page page = above.kids.get(at);
        if (!page.tooBig()) {
            return;
        }
        above.touched = true;
        int size = page.leaf ? page.entries.size() : page.kids.size();
        int most = page.leaf ? 6 : 5;
        int parts = 1;
        while (parts * most < size) {
            parts++;
        }
        List<Page> made = new ArrayList<>();
        List<Long> between = new ArrayList<>();
        List<Long> keys = new ArrayList<>(page.entries.keySet());
        int begin = 0;
        for (int i = 0; i < parts; i++) {
            int end = begin + size / parts + (i < size % parts ? 1 : 0);
            Page part = new Page();
            part.leaf = page.leaf;
            if (page.leaf) {
                for (int k = begin; k < end; k++) {
                    part.entries.put(keys.get(k), page.entries.get(keys.get(k)));
                }
            } else {
                part.kids.addAll(page.kids.subList(begin, end));
                part.borders.addAll(page.borders.subList(begin, end - 1));
            }
            if (i > 0) {
                between.add(page.leaf ? keys.get(begin) : page.borders.get(begin - 1));
            }
            made.add(part);
            begin = end;
        }
        for (Letter letter : page.room) {
            int part = 0;
            while (part < between.size() && between.get(part) <= letter.a) {
                part++;
            }
            made.get(part).room.add(letter);
        }
        above.kids.remove(at);
        above.kids.addAll(at, made);
        above.borders.addAll(at, between);
    }

    private void partRoot() {
        while (root.tooBig()) {
            Page above = new Page();
            above.kids.add(root);
            part(above, 0);
            root = above;
        }
    }

    int sink() {
        if (down) {
            return DOWN;
        }
        if (root.leaf || root.room.isEmpty()) {
            return 0;
        }
        int sunk = sinks(root, Long.MIN_VALUE, Long.MAX_VALUE);
        partRoot();
        return sunk;
    }

    /** Whether there was a PAGE with LETTERS from this one on; the first such has sunk. */
    private boolean sinkFirst(Page page, long low, long high) {
        if (!page.room.isEmpty()) {
            sinks(page, low, high);
            return true;
        }
        for (int i = 0; i < page.kids.size(); i++) {
            if (sinkFirst(page.kids.get(i), page.low(i, low), page.high(i, high))) {
                part(page, i);
                return true;
            }
        }
        return false;
    }

    int settle() {
        if (down) {
            return DOWN;
        }
        int times = 0;
        while (sinkFirst(root, Long.MIN_VALUE, Long.MAX_VALUE)) {
            partRoot();
            times++;
        }
        return times;
    }

    private static List<Page> listed(Page root) {
        List<Page> all = new ArrayList<>();
        root.list(all);
        return all;
    }

    int pages() {
        return down ? DOWN : listed(root).size();
    }

    private List<Page> way(long key) {
        List<Page> way = new ArrayList<>();
        Page page = root;
        while (!page.leaf) {
            way.add(page);
            page = page.kids.get(page.kidWith(key));
        }
        way.add(page);
        return way;
    }

    int height() {
        return down ? DOWN : way(0).size();
    }

    int letters() {
        if (down) {
            return DOWN;
        }
        int all = 0;
        for (Page page : listed(root)) {
            all += page.room.size();
        }
        return all;
    }

    private Page numbered(int i) {
        List<Page> all = listed(root);
        return i < 0 || i >= all.size() ? null : all.get(i);
    }

    int page(int i, int what) {
        if (down) {
            return DOWN;
        }
        Page page = numbered(i);
        if (page == null || what < 0 || what > 3) {
            return NONE;
        }
        int size = page.leaf ? page.entries.size() : page.kids.size();
        int place = page.changed() ? NONE : page.place;
        return new int[] {page.leaf ? 0 : 1, size, page.room.size(), place}[what];
    }

    int border(int i, int k) {
        if (down) {
            return DOWN;
        }
        Page page = numbered(i);
        if (page == null) {
            return NONE;
        }
        List<Long> keys = page.leaf ? new ArrayList<>(page.entries.keySet()) : page.borders;
        return k < 1 || k > keys.size() ? NONE : find(keys.get(k - 1));
    }

    int letter(int i, int k, int what) {
        if (down) {
            return DOWN;
        }
        Page page = numbered(i);
        if (page == null || k < 0 || k >= page.room.size() || what < 0 || what > 1) {
            return NONE;
        }
        return what == 0 ? page.room.get(k).kind : page.room.get(k).number;
    }

    int met(long key) {
        if (down) {
            return DOWN;
        }
        int all = 0;
        for (Page page : way(key)) {
            for (Letter letter : page.room) {
                all += letter.a <= key && key <= letter.b ? 1 : 0;
            }
        }
        return all;
    }

    // ---- the disk

    private static void take(TreeSet<Integer> taken, Page root) {
        for (Page page : listed(root)) {
            if (!page.changed()) {
                taken.add(page.place);
            }
        }
    }

    private TreeSet<Integer> taken() {
        TreeSet<Integer> taken = new TreeSet<>();
        take(taken, root);
        for (Picture picture : pictures) {
            take(taken, picture.root);
        }
        for (Head head : heads) {
            if (head != null) {
                take(taken, head.root);
                for (Picture picture : head.pictures) {
                    take(taken, picture.root);
                }
            }
        }
        return taken;
    }

    private boolean torn(int kind) {
        writes[kind]++;
        if (fallIn > 0 && --fallIn == 0) {
            writes[3]++;
            return true;
        }
        return false;
    }

    private boolean writePages(Page page) {
        for (Page kid : page.kids) {
            if (!writePages(kid)) {
                return false;
            }
        }
        if (!page.touched) {
            return true;
        }
        if (torn(page.leaf ? 0 : 1)) {
            return false;
        }
        TreeSet<Integer> taken = taken();
        int place = 0;
        while (taken.contains(place)) {
            place++;
        }
        page.place = place;
        page.touched = false;
        return true;
    }

    private static void markUp(Page page) {
        page.touched = page.changed();
        for (Page kid : page.kids) {
            markUp(kid);
        }
    }

    private int writeAll(boolean pictured) {
        int changed = 0;
        for (Page page : listed(root)) {
            changed += page.changed() ? 1 : 0;
        }
        if (1000 - taken().size() < changed || pictured && pictures.size() >= 12) {
            return FULL;
        }
        markUp(root);
        if (!writePages(root)) {
            return goDown();
        }
        if (pictured) {
            Picture picture = new Picture();
            picture.number = ++greatest;
            picture.root = root.copy();
            picture.log = new ArrayList<>(log);
            pictures.add(picture);
        }
        int g = generation + 1;
        if (torn(2)) {
            heads[g % 2] = null;
            return goDown();
        }
        Head head = new Head();
        head.generation = g;
        head.root = root.copy();
        head.log = new ArrayList<>(log);
        head.pictures = new ArrayList<>(pictures);
        head.greatest = greatest;
        heads[g % 2] = head;
        generation = g;
        return changed + 1;
    }

    private int goDown() {
        fresh();
        down = true;
        return FELL;
    }

    int sync() {
        return down ? DOWN : writeAll(false);
    }

    int picture() {
        if (down) {
            return DOWN;
        }
        int done = writeAll(true);
        return done < 0 ? done : greatest;
    }

    private Picture pictureWith(int number) {
        for (Picture picture : pictures) {
            if (picture.number == number) {
                return picture;
            }
        }
        return null;
    }

    int look(int number, long key) {
        if (down) {
            return DOWN;
        }
        Picture picture = pictureWith(number);
        return picture == null ? BAD : load(mapOf(picture.log).get(key));
    }

    int release(int number) {
        if (down) {
            return DOWN;
        }
        return pictures.remove(pictureWith(number)) ? pictures.size() : NONE;
    }

    int pictured(int k) {
        if (down) {
            return DOWN;
        }
        return k < 0 || k >= pictures.size() ? NONE : pictures.get(k).number;
    }

    int free() {
        return down ? DOWN : 1000 - taken().size();
    }

    int fall(int n) {
        if (n < 0 || n > 10000) {
            return BAD;
        }
        fallIn = n;
        return n;
    }

    int crash() {
        if (down) {
            return DOWN;
        }
        goDown();
        return 0;
    }

    int rise() {
        if (!down) {
            return BAD;
        }
        down = false;
        fresh();
        for (Head head : heads) {
            if (head != null && head.generation > generation) {
                root = head.root.copy();
                log = new ArrayList<>(head.log);
                pictures = new ArrayList<>(head.pictures);
                generation = head.generation;
            }
            if (head != null) {
                greatest = Math.max(greatest, head.greatest);
            }
        }
        return generation;
    }

    int disk(int h, int what) {
        if (h < 0 || h > 1 || what < 0 || what > 3) {
            return NONE;
        }
        Head head = heads[h];
        if (head == null) {
            return 0;
        }
        int pages = listed(head.root).size();
        return new int[] {head.generation, head.log.size(), head.pictures.size(), pages}[what];
    }

    int bend(int h) {
        if (h < 0 || h > 1) {
            return NONE;
        }
        int was = heads[h] == null ? 0 : 1;
        heads[h] = null;
        return was;
    }

    int writes(int what) {
        return what < 0 || what > 3 ? NONE : writes[what];
    }

    int number(int what) {
        if (down) {
            return DOWN;
        }
        return what == 0 ? log.size() : what == 1 ? generation : NONE;
    }
}
