/** Promises 5 to 9: put, append, swap, drop, sweep. */
public final class WritesTest {
    private static final Checks CHECKS = new Checks();
    private static final int BAD = LetterTree.BAD;

    public static void main(String[] args) {
        putTellsWhetherTheKeyWas();
        appendCutsAtTwenty();
        swapNeedsTheRow();
        swapRefuses();
        dropAndSweep();
        refusalsTakeNoTape();
        sameByLeafAndByRoom();
        CHECKS.end();
    }

    static void feed(LetterTree x, int n) {
        for (int i = 0; i < n; i++) {
            x.feed(i + 1, 1);
        }
    }

    private static void putTellsWhetherTheKeyWas() {
        LetterTree x = new LetterTree();
        CHECKS.due("number at first", x.number(0), 0);
        CHECKS.due("put with an empty tape", x.put(Long.MIN_VALUE), 0);
        CHECKS.due("a row of 0 bytes", x.get(Long.MIN_VALUE), 0);
        feed(x, 20);
        CHECKS.due("put 20 bytes", x.put(Long.MIN_VALUE), 1);
        CHECKS.due("the tape was taken", x.cut(1), BAD);
        CHECKS.due("20 bytes", x.get(Long.MIN_VALUE), 20);
        CHECKS.due("the last one", x.byteAt(19), 20);
        x.feed(0, 1);
        CHECKS.due("21 bytes", x.put(4), BAD);
        CHECKS.due("no such key", x.has(4), 0);
        CHECKS.due("no write", x.number(0), 2);
    }

    private static void appendCutsAtTwenty() {
        LetterTree x = new LetterTree();
        feed(x, 3);
        CHECKS.due("append as put", x.append(5), 3);
        x.feed(99, 1);
        CHECKS.due("one more", x.append(5), 4);
        CHECKS.due("get", x.get(5), 4);
        CHECKS.due("old ones first", x.byteAt(0), 1);
        CHECKS.due("new ones behind", x.byteAt(3), 99);
        x.cut(0);
        feed(x, 18);
        CHECKS.due("cut at 20", x.append(5), 20);
        x.get(5);
        CHECKS.due("the first that are new", x.byteAt(19), 16);
        x.cut(0);
        CHECKS.due("append nothing", x.append(5), 20);
        CHECKS.due("append nothing to none", x.append(6), 0);
        CHECKS.due("it is there", x.has(6), 1);
        feed(x, 21);
        CHECKS.due("21 bytes", x.append(7), BAD);
        CHECKS.due("not there", x.has(7), 0);
    }

    private static void swapNeedsTheRow() {
        LetterTree x = new LetterTree();
        CHECKS.due("swap nothing for nothing, no key", x.swap(5, 0), 0);
        CHECKS.due("it is not made", x.has(5), 0);
        feed(x, 2);
        x.put(5);
        x.feed(0x0102aabbccL, 5);
        CHECKS.due("swap 1,2 for three", x.swap(5, 2), 1);
        CHECKS.due("three", x.get(5), 3);
        CHECKS.due("the others", x.byteAt(0), 0xaa);
        x.cut(0);
        x.feed(0xaabbL, 2);
        CHECKS.due("only the beginning is the row's", x.swap(5, 2), 0);
        CHECKS.due("tape is taken", x.byteAt(0), LetterTree.NONE);
        x.feed(0xaabbcd01L, 4);
        CHECKS.due("one byte differs", x.swap(5, 3), 0);
        x.feed(0xaabbcc01L, 4);
        CHECKS.due("the row is shorter", x.swap(5, 4), 0);
        x.feed(0xaabbccL, 3);
        CHECKS.due("for nothing", x.swap(5, 3), 1);
        CHECKS.due("an empty row", x.get(5), 0);
        x.feed(6, 1);
        CHECKS.due("nothing for one", x.swap(5, 0), 1);
        CHECKS.due("one", x.get(5), 1);
        CHECKS.due("each is a write", x.number(0), 8);
    }

    private static void swapRefuses() {
        LetterTree x = new LetterTree();
        CHECKS.due("n below 0", x.swap(1, -1), BAD);
        CHECKS.due("the tape has not n", x.swap(1, 1), BAD);
        feed(x, 21);
        CHECKS.due("n is 21", x.swap(1, 21), BAD);
        CHECKS.due("21 others", x.swap(1, 0), BAD);
        CHECKS.due("least n", x.swap(1, Integer.MIN_VALUE), BAD);
        CHECKS.due("20 others", x.swap(1, 1), 0);
        feed(x, 40);
        CHECKS.due("20 and 21", x.swap(1, 19), BAD);
        CHECKS.due("20 and 20", x.swap(1, 20), 0);
        CHECKS.due("two writes", x.number(0), 2);
    }

    private static void dropAndSweep() {
        LetterTree x = new LetterTree();
        CHECKS.due("drop none", x.drop(3), 0);
        for (long key = 0; key < 6; key++) {
            x.put(key);
        }
        x.feed(1, 1);
        CHECKS.due("drop", x.drop(3), 1);
        CHECKS.due("it takes no tape", x.byteAt(0), 1);
        CHECKS.due("drop again", x.drop(3), 0);
        CHECKS.due("b below a", x.sweep(2, 1), BAD);
        CHECKS.due("b far below a", x.sweep(Long.MAX_VALUE, Long.MIN_VALUE), BAD);
        CHECKS.due("one key", x.sweep(1, 1), 1);
        CHECKS.due("both ends", x.sweep(2, 4), 2);
        CHECKS.due("none", x.sweep(1, 4), 0);
        CHECKS.due("all", x.sweep(Long.MIN_VALUE, Long.MAX_VALUE), 2);
        CHECKS.due("takes no tape", x.byteAt(0), 1);
        CHECKS.due("count", x.count(), 0);
        CHECKS.due("each is a write", x.number(0), 13);
    }

    private static void refusalsTakeNoTape() {
        LetterTree x = new LetterTree();
        feed(x, 21);
        x.put(1);
        x.append(1);
        x.swap(1, 21);
        CHECKS.due("the tape is as it was", x.cut(21), 21);
        CHECKS.due("nothing was written", x.number(0), 0);
        x.crash();
        CHECKS.due("DOWN ahead of BAD: put", x.put(1), LetterTree.DOWN);
        CHECKS.due("DOWN ahead of BAD: append", x.append(1), LetterTree.DOWN);
        CHECKS.due("DOWN ahead of BAD: swap", x.swap(1, -1), LetterTree.DOWN);
        CHECKS.due("DOWN ahead of BAD: sweep", x.sweep(2, 1), LetterTree.DOWN);
        CHECKS.due("drop", x.drop(1), LetterTree.DOWN);
        CHECKS.due("the tape is as it was", x.cut(21), 21);
    }

    /** What LETTERS in a ROOM mean is what they do when they have sunk. */
    private static void sameByLeafAndByRoom() {
        LetterTree x = new LetterTree();
        for (long key = 10; key <= 70; key += 10) {
            x.feed(1, 1);
            x.put(key);
        }
        CHECKS.due("put in the room", x.put(10), 1);
        x.feed(2, 1);
        CHECKS.due("append in the room", x.append(10), 1);
        x.feed(0x0203, 2);
        CHECKS.due("swap in the room", x.swap(10, 1), 1);
        CHECKS.due("drop in the room", x.drop(20), 1);
        CHECKS.due("sweep in the room", x.sweep(30, 60), 4);
        CHECKS.due("letters", x.letters(), 6);
        x.settle();
        CHECKS.due("no letters", x.letters(), 0);
        CHECKS.due("get", x.get(10), 1);
        CHECKS.due("byte", x.byteAt(0), 3);
        CHECKS.due("count", x.count(), 2);
        CHECKS.due("first leaf", x.page(1, 1), 1);
        CHECKS.due("second leaf", x.page(2, 1), 1);
    }
}
