/** Promises 2 to 4: feed, cut, byteAt. */
public final class TapeTest {
    private static final Checks CHECKS = new Checks();

    public static void main(String[] args) {
        feedTakesTheLowestBytes();
        feedRefuses();
        cutKeepsTheFirst();
        tapeIsThereWhenDown();
        CHECKS.end();
    }

    private static void feedTakesTheLowestBytes() {
        LetterTree x = new LetterTree();
        CHECKS.due("byteAt(0) of an empty tape", x.byteAt(0), LetterTree.NONE);
        CHECKS.due("feed 2 bytes", x.feed(0x11223344L, 2), 2);
        CHECKS.due("the higher one", x.byteAt(0), 0x33);
        CHECKS.due("the lower one", x.byteAt(1), 0x44);
        CHECKS.due("feed 8 bytes", x.feed(0xff00000000000080L, 8), 10);
        CHECKS.due("behind the others", x.byteAt(2), 0xff);
        CHECKS.due("a byte is 0 .. 255", x.byteAt(9), 0x80);
        CHECKS.due("behind the last", x.byteAt(10), LetterTree.NONE);
        CHECKS.due("ahead of the first", x.byteAt(-1), LetterTree.NONE);
        CHECKS.due("greatest", x.byteAt(Integer.MAX_VALUE), LetterTree.NONE);
        CHECKS.due("least", x.byteAt(Integer.MIN_VALUE), LetterTree.NONE);
    }

    private static void feedRefuses() {
        LetterTree x = new LetterTree();
        int[] bad = {0, -1, 9, Integer.MAX_VALUE, Integer.MIN_VALUE};
        for (int n : bad) {
            CHECKS.due("feed(1, " + n + ")", x.feed(1, n), LetterTree.BAD);
        }
        for (int i = 1; i <= 4; i++) {
            CHECKS.due("feed 8", x.feed(-1, 8), 8 * i);
        }
        CHECKS.due("39 bytes", x.feed(0, 7), 39);
        CHECKS.due("41 bytes", x.feed(0, 2), LetterTree.BAD);
        CHECKS.due("nothing changed", x.byteAt(39), LetterTree.NONE);
        CHECKS.due("40 bytes", x.feed(5, 1), 40);
        CHECKS.due("one more", x.feed(5, 1), LetterTree.BAD);
        CHECKS.due("n that wraps", x.feed(5, Integer.MAX_VALUE), LetterTree.BAD);
    }

    private static void cutKeepsTheFirst() {
        LetterTree x = new LetterTree();
        CHECKS.due("cut(0) of nothing", x.cut(0), 0);
        CHECKS.due("cut(1) of nothing", x.cut(1), LetterTree.BAD);
        x.feed(0x010203, 3);
        CHECKS.due("cut(4)", x.cut(4), LetterTree.BAD);
        CHECKS.due("cut(-1)", x.cut(-1), LetterTree.BAD);
        CHECKS.due("all stays", x.byteAt(2), 3);
        CHECKS.due("cut(3)", x.cut(3), 3);
        CHECKS.due("cut(2)", x.cut(2), 2);
        CHECKS.due("the second stays", x.byteAt(1), 2);
        CHECKS.due("the third is gone", x.byteAt(2), LetterTree.NONE);
        CHECKS.due("feed goes behind", x.feed(9, 1), 3);
        CHECKS.due("there", x.byteAt(2), 9);
    }

    private static void tapeIsThereWhenDown() {
        LetterTree x = new LetterTree();
        x.feed(7, 1);
        x.crash();
        CHECKS.due("byteAt", x.byteAt(0), 7);
        CHECKS.due("feed", x.feed(8, 1), 2);
        CHECKS.due("put is refused", x.put(1), LetterTree.DOWN);
        CHECKS.due("and took no tape", x.byteAt(1), 8);
        CHECKS.due("cut", x.cut(1), 1);
    }
}
