/** Promises 1 and 10 to 15, sentence by sentence, at their edges. */
public final class MapEdgesTest {
    private static final Checks CHECKS = new Checks();
    private static final int NONE = LetterTree.NONE;
    private static final long LEAST = Long.MIN_VALUE, MOST = Long.MAX_VALUE;

    public static void main(String[] args) {
        aNewObject();
        objectsAreApart();
        getLoadsTheRow();
        getOfNoneLeavesTheTape();
        hasTellsOneKey();
        nextIsTheFirstNotBelow();
        priorIsTheLastNotAbove();
        nothingFoundLeavesFound();
        foundIsTheLatest();
        countTellsKeys();
        CHECKS.end();
    }

    /** "An empty MAP; HEADS are none." */
    private static void aNewObject() {
        LetterTree x = new LetterTree();
        CHECKS.due("count", x.count(), 0);
        CHECKS.due("the tape is empty", x.byteAt(0), NONE);
        CHECKS.due("found", x.found(), 0);
        CHECKS.due("one leaf", x.pages(), 1);
        CHECKS.due("height", x.height(), 1);
        CHECKS.due("no entry", x.page(0, 1), 0);
        for (int what = 0; what < 4; what++) {
            CHECKS.due("head 0", x.disk(0, what), 0);
            CHECKS.due("head 1", x.disk(1, what), 0);
            CHECKS.due("writes", x.writes(what), 0);
        }
        CHECKS.due("all places", x.free(), 1000);
        CHECKS.due("no picture", x.pictured(0), NONE);
        CHECKS.due("it is not DOWN", x.rise(), LetterTree.BAD);
        CHECKS.due("no fall is due", x.sync(), 2);
        CHECKS.due("the first picture", x.picture(), 1);
    }

    private static void objectsAreApart() {
        LetterTree x = Grown.twoLeaves();
        x.feed(9, 1);
        x.picture();
        x.fall(1);
        LetterTree y = new LetterTree();
        CHECKS.due("count", y.count(), 0);
        CHECKS.due("tape", y.byteAt(0), NONE);
        CHECKS.due("disk", y.free(), 1000);
        CHECKS.due("fall", y.sync(), 2);
        CHECKS.due("the other", x.count(), 7);
    }

    /** get: "THE TAPE is the ROW of a KEY: how many bytes." */
    private static void getLoadsTheRow() {
        int[] sizes = {0, 1, 19, 20};
        for (int size : sizes) {
            LetterTree x = new LetterTree();
            Grown.feed(x, 1, size);
            x.put(5);
            Grown.feed(x, 101, 40);
            CHECKS.due("get " + size, x.get(5), size);
            for (int i = 0; i < size; i++) {
                CHECKS.due("byte " + i, x.byteAt(i), i + 1);
            }
            CHECKS.due("nothing of the old tape", x.byteAt(size), NONE);
            CHECKS.due("feed comes behind the row", x.feed(9, 1), size + 1);
            x.cut(0);
            CHECKS.due("the row stays as it was", x.get(5), size);
        }
    }

    /** get: "NONE (THE TAPE stays)." */
    private static void getOfNoneLeavesTheTape() {
        int[] sizes = {0, 1, 40};
        for (int size : sizes) {
            LetterTree x = Grown.twoLeaves();
            x.drop(70);
            Grown.feed(x, 1, size);
            long[] none = {LEAST, 9, 11, 49, 51, 70, MOST};
            for (long key : none) {
                CHECKS.due("get " + key, x.get(key), NONE);
            }
            CHECKS.due("the tape stays", x.cut(size), size);
            CHECKS.due("its last byte", x.byteAt(size - 1), size == 0 ? NONE : size);
            CHECKS.due("no more", x.byteAt(size), NONE);
        }
    }

    /** has: "Whether a KEY is there: 1, 0." */
    private static void hasTellsOneKey() {
        long[] keys = {LEAST, -1, 0, 1, MOST};
        for (long key : keys) {
            LetterTree x = new LetterTree();
            CHECKS.due("not yet", x.has(key), 0);
            x.put(key);
            CHECKS.due("has", x.has(key), 1);
            CHECKS.due("one below (or around)", x.has(key - 1), 0);
            CHECKS.due("one above (or around)", x.has(key + 1), 0);
            x.drop(key);
            CHECKS.due("no more", x.has(key), 0);
        }
    }

    private static LetterTree withKeys(long... keys) {
        LetterTree x = new LetterTree();
        for (long key : keys) {
            x.put(key);
        }
        return x;
    }

    private static void next(LetterTree x, long key, long found) {
        CHECKS.due("next(" + key + ")", x.next(key), 1);
        CHECKS.due("found by next(" + key + ")", x.found(), found);
    }

    private static void prior(LetterTree x, long key, long found) {
        CHECKS.due("prior(" + key + ")", x.prior(key), 1);
        CHECKS.due("found by prior(" + key + ")", x.found(), found);
    }

    /** next: "The first KEY not below this one is found: 1; 0: there is none." */
    private static void nextIsTheFirstNotBelow() {
        LetterTree x = withKeys(-10, 0, 10);
        next(x, LEAST, -10);
        next(x, -11, -10);
        next(x, -10, -10);
        next(x, -9, 0);
        next(x, -1, 0);
        next(x, 0, 0);
        next(x, 1, 10);
        next(x, 10, 10);
        CHECKS.due("one above the last", x.next(11), 0);
        CHECKS.due("the greatest", x.next(MOST), 0);
        LetterTree ends = withKeys(LEAST, MOST);
        next(ends, LEAST, LEAST);
        next(ends, LEAST + 1, MOST);
        next(ends, MOST, MOST);
        CHECKS.due("of an empty MAP", new LetterTree().next(LEAST), 0);
        LetterTree pages = Grown.twoLeaves();
        next(pages, 41, 50);
        pages.put(45);
        next(pages, 41, 45);
        pages.drop(45);
        pages.drop(50);
        next(pages, 41, 60);
    }

    /** prior: "The last KEY not above this one is found: 1; 0: there is none." */
    private static void priorIsTheLastNotAbove() {
        LetterTree x = withKeys(-10, 0, 10);
        prior(x, MOST, 10);
        prior(x, 11, 10);
        prior(x, 10, 10);
        prior(x, 9, 0);
        prior(x, 1, 0);
        prior(x, 0, 0);
        prior(x, -1, -10);
        prior(x, -10, -10);
        CHECKS.due("one below the first", x.prior(-11), 0);
        CHECKS.due("the least", x.prior(LEAST), 0);
        LetterTree ends = withKeys(LEAST, MOST);
        prior(ends, MOST, MOST);
        prior(ends, MOST - 1, LEAST);
        prior(ends, LEAST, LEAST);
        CHECKS.due("of an empty MAP", new LetterTree().prior(MOST), 0);
        LetterTree pages = Grown.twoLeaves();
        prior(pages, 49, 40);
        pages.put(45);
        prior(pages, 49, 45);
        pages.drop(45);
        pages.drop(40);
        prior(pages, 49, 30);
    }

    private static void nothingFoundLeavesFound() {
        LetterTree x = withKeys(10, 20);
        CHECKS.due("0 at first", x.found(), 0);
        x.prior(9);
        CHECKS.due("prior without one", x.found(), 0);
        x.next(15);
        x.next(21);
        CHECKS.due("next without one", x.found(), 20);
        x.border(0, 0);
        x.border(0, 3);
        x.border(1, 1);
        CHECKS.due("border without one", x.found(), 20);
    }

    /** found: "The KEY that was found latest (by next, prior, border; 0 at first)." */
    private static void foundIsTheLatest() {
        LetterTree x = Grown.twoLeaves();
        x.next(11);
        CHECKS.due("by next", x.found(), 20);
        x.prior(19);
        CHECKS.due("by prior", x.found(), 10);
        x.border(0, 1);
        CHECKS.due("by border", x.found(), 50);
        x.border(2, 2);
        CHECKS.due("by border of a leaf", x.found(), 60);
        x.get(10);
        x.has(10);
        x.put(10);
        x.met(10);
        x.drop(60);
        x.sweep(20, 30);
        x.picture();
        x.look(1, 70);
        CHECKS.due("by nothing else, and it need not be there", x.found(), 60);
        x.next(MOST);
        CHECKS.due("nor by one that finds none", x.found(), 60);
    }

    /** count: "How many KEYS there are." */
    private static void countTellsKeys() {
        LetterTree x = new LetterTree();
        for (int i = 1; i <= 30; i++) {
            x.put(i);
            x.put(i);
            CHECKS.due("count", x.count(), i);
        }
        x.drop(31);
        CHECKS.due("a DROP of none", x.count(), 30);
        x.drop(30);
        CHECKS.due("a DROP", x.count(), 29);
        x.sweep(0, 28);
        CHECKS.due("a SWEEP of all but one", x.count(), 1);
        x.sweep(29, 29);
        CHECKS.due("none", x.count(), 0);
    }
}
