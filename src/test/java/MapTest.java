/** Promises 1 and 10 to 15: a new object, get, has, next, prior, found, count. */
public final class MapTest {
    private static final Checks CHECKS = new Checks();
    private static final int DOWN = LetterTree.DOWN;

    public static void main(String[] args) {
        newObjectIsEmpty();
        getAndHas();
        nextAndPrior();
        foundStays();
        refusedWhenDown();
        CHECKS.end();
    }

    private static void newObjectIsEmpty() {
        LetterTree x = new LetterTree();
        CHECKS.due("count", x.count(), 0);
        CHECKS.due("found", x.found(), 0);
        CHECKS.due("next", x.next(Long.MIN_VALUE), 0);
        CHECKS.due("prior", x.prior(Long.MAX_VALUE), 0);
        CHECKS.due("pages", x.pages(), 1);
        CHECKS.due("free", x.free(), 1000);
        CHECKS.due("pictured", x.pictured(0), LetterTree.NONE);
        CHECKS.due("rise", x.rise(), LetterTree.BAD);
        for (int what = 0; what < 4; what++) {
            CHECKS.due("head 0", x.disk(0, what), 0);
            CHECKS.due("head 1", x.disk(1, what), 0);
            CHECKS.due("writes", x.writes(what), 0);
        }
        CHECKS.due("number", x.number(0), 0);
        CHECKS.due("generation", x.number(1), 0);
    }

    private static void getAndHas() {
        LetterTree x = new LetterTree();
        x.feed(0x0102, 2);
        CHECKS.due("get of none", x.get(1), LetterTree.NONE);
        CHECKS.due("the tape stays", x.byteAt(1), 2);
        x.put(1);
        x.feed(0x070809, 3);
        CHECKS.due("has", x.has(1), 1);
        CHECKS.due("has not", x.has(2), 0);
        CHECKS.due("get", x.get(1), 2);
        CHECKS.due("the tape is the row", x.byteAt(0), 1);
        CHECKS.due("and no more", x.byteAt(2), LetterTree.NONE);
        x.feed(3, 1);
        x.get(1);
        CHECKS.due("the row is its own", x.byteAt(2), LetterTree.NONE);
    }

    private static void nextAndPrior() {
        LetterTree x = new LetterTree();
        long[] keys = {Long.MIN_VALUE, -5, 0, 7, Long.MAX_VALUE};
        for (long key : keys) {
            x.put(key);
        }
        CHECKS.due("count", x.count(), 5);
        long[][] nexts = {{Long.MIN_VALUE, Long.MIN_VALUE}, {-4, 0}, {7, 7}, {8, Long.MAX_VALUE}};
        for (long[] pair : nexts) {
            CHECKS.due("next(" + pair[0] + ")", x.next(pair[0]), 1);
            CHECKS.due("found by next(" + pair[0] + ")", x.found(), pair[1]);
        }
        long[][] priors = {{Long.MAX_VALUE, Long.MAX_VALUE}, {6, 0}, {-5, -5}, {-6, Long.MIN_VALUE}};
        for (long[] pair : priors) {
            CHECKS.due("prior(" + pair[0] + ")", x.prior(pair[0]), 1);
            CHECKS.due("found by prior(" + pair[0] + ")", x.found(), pair[1]);
        }
        x.drop(Long.MAX_VALUE);
        x.drop(Long.MIN_VALUE);
        CHECKS.due("none above", x.next(8), 0);
        CHECKS.due("none below", x.prior(-6), 0);
        CHECKS.due("count", x.count(), 3);
    }

    private static void foundStays() {
        LetterTree x = new LetterTree();
        x.put(3);
        x.put(9);
        x.next(4);
        CHECKS.due("found", x.found(), 9);
        x.next(10);
        x.prior(2);
        x.border(0, 3);
        x.has(3);
        CHECKS.due("what finds nothing leaves it", x.found(), 9);
        CHECKS.due("border", x.border(0, 1), 1);
        CHECKS.due("found by border", x.found(), 3);
        x.crash();
        CHECKS.due("found when DOWN", x.found(), 3);
    }

    private static void refusedWhenDown() {
        LetterTree x = new LetterTree();
        x.put(3);
        x.crash();
        CHECKS.due("get", x.get(3), DOWN);
        CHECKS.due("has", x.has(3), DOWN);
        CHECKS.due("next", x.next(3), DOWN);
        CHECKS.due("prior", x.prior(3), DOWN);
        CHECKS.due("count", x.count(), DOWN);
        CHECKS.due("found", x.found(), 0);
    }
}
