/** Promises 5 to 9 and section 1 of the terms, sentence by sentence, at their edges. */
public final class WriteEdgesTest {
    private static final Checks CHECKS = new Checks();
    private static final int NONE = LetterTree.NONE, BAD = LetterTree.BAD;
    private static final long LEAST = Long.MIN_VALUE, MOST = Long.MAX_VALUE;

    public static void main(String[] args) {
        rowsHave0To20Bytes();
        putIsBadBeyond20();
        putTellsWhetherTheKeyWas();
        appendCutsAt20();
        appendIsBadBeyond20();
        appendIsAPutWithoutTheKey();
        swapNeedsTheWholeRow();
        swapTakes0To20();
        swapIsBadWithoutNBytes();
        swapIsBadBeyond20Others();
        dropTellsWhetherTheKeyWas();
        sweepHasBothEnds();
        sweepIsBadIfBIsBelowA();
        writesAreNumberedFrom1();
        writesTakeTheTape();
        lettersInARoomActByNumber();
        CHECKS.end();
    }

    /** A KEY whose ROW is the bytes 1 .. size; THE TAPE is empty. */
    private static LetterTree withRow(long key, int size) {
        LetterTree x = new LetterTree();
        Grown.feed(x, 1, size);
        x.put(key);
        return x;
    }

    /** The ROW of a KEY is the bytes from, from + 1, .. */
    private static void rowIs(String when, LetterTree x, long key, int from, int size) {
        CHECKS.due(when + ": size", x.get(key), size);
        for (int i = 0; i < size; i++) {
            CHECKS.due(when + ": byte " + i, x.byteAt(i), from + i);
        }
        CHECKS.due(when + ": no more", x.byteAt(size), NONE);
    }

    private static void tapeHas(String when, LetterTree x, int size) {
        CHECKS.due(when + ": last byte of the tape", x.byteAt(size - 1) >= 0 ? 1 : 0, size > 0 ? 1 : 0);
        CHECKS.due(when + ": behind the tape", x.byteAt(size), NONE);
    }

    /** "KEYS (longs, in their order), each with a ROW of 0 to 20 bytes." */
    private static void rowsHave0To20Bytes() {
        long[] keys = {LEAST, LEAST + 1, -1, 0, 1, MOST - 1, MOST};
        for (int size = 0; size <= 20; size++) {
            for (long key : keys) {
                LetterTree x = withRow(key, size);
                rowIs("a row of " + size, x, key, 1, size);
                CHECKS.due("one key", x.count(), 1);
            }
        }
        LetterTree all = new LetterTree();
        for (int i = keys.length - 1; i >= 0; i--) {
            all.put(keys[i]);
        }
        for (int i = 0; i < 4; i++) {
            all.border(1, i + 1);
            CHECKS.due("keys in their order", all.found(), keys[i]);
        }
        all.border(2, 3);
        CHECKS.due("the greatest is the last", all.found(), MOST);
    }

    /** put: "BAD: more than 20 bytes." */
    private static void putIsBadBeyond20() {
        for (int size = 19; size <= 40; size++) {
            LetterTree x = new LetterTree();
            Grown.feed(x, 1, size);
            CHECKS.due("put " + size, x.put(7), size > 20 ? BAD : 0);
            tapeHas("put " + size, x, size > 20 ? size : 0);
            CHECKS.due("has", x.has(7), size > 20 ? 0 : 1);
            CHECKS.due("number", x.number(0), size > 20 ? 0 : 1);
        }
    }

    /** put: "1 if the KEY was there, else 0." */
    private static void putTellsWhetherTheKeyWas() {
        LetterTree x = new LetterTree();
        CHECKS.due("not yet", x.put(5), 0);
        CHECKS.due("with a row of 0 bytes it is there", x.put(5), 1);
        CHECKS.due("one below is another", x.put(4), 0);
        CHECKS.due("one above is another", x.put(6), 0);
        x.drop(5);
        CHECKS.due("dropped", x.put(5), 0);
        x.sweep(5, 5);
        CHECKS.due("swept", x.put(5), 0);
        CHECKS.due("count", x.count(), 3);
    }

    /** APPEND: "its ROW has these bytes behind it, cut at 20"; append: "how many .. then." */
    private static void appendCutsAt20() {
        for (int old = 0; old <= 20; old++) {
            for (int more = 0; more <= 20; more++) {
                LetterTree x = withRow(5, old);
                Grown.feed(x, old + 1, more);
                int both = Math.min(20, old + more);
                CHECKS.due(old + " and " + more, x.append(5), both);
                tapeHas("append", x, 0);
                rowIs(old + " and " + more, x, 5, 1, both);
            }
        }
    }

    /** append: "BAD: more than 20 bytes." */
    private static void appendIsBadBeyond20() {
        for (int size = 19; size <= 40; size++) {
            LetterTree x = withRow(7, 0);
            Grown.feed(x, 1, size);
            CHECKS.due("append " + size, x.append(7), size > 20 ? BAD : size);
            tapeHas("append " + size, x, size > 20 ? size : 0);
            CHECKS.due("number", x.number(0), size > 20 ? 1 : 2);
            CHECKS.due("row", x.get(7), size > 20 ? 0 : size);
        }
    }

    /** APPEND: "else as PUT." */
    private static void appendIsAPutWithoutTheKey() {
        int[] sizes = {0, 1, 19, 20};
        for (int size : sizes) {
            LetterTree x = new LetterTree();
            Grown.feed(x, 1, size);
            CHECKS.due("append to none", x.append(3), size);
            CHECKS.due("it is there", x.has(3), 1);
            rowIs("append to none", x, 3, 1, size);
            x.cut(0);
            x.drop(3);
            x.feed(1, 1);
            CHECKS.due("append to one that was dropped", x.append(3), 1);
        }
    }

    /** SWAP: "if the KEY is there and its ROW is the first n bytes: it has the others." */
    private static void swapNeedsTheWholeRow() {
        for (int row = 0; row <= 20; row++) {
            for (int n = 0; n <= 20; n++) {
                LetterTree x = withRow(5, row);
                Grown.feed(x, 1, n);
                Grown.feed(x, 101, 2);
                CHECKS.due("row of " + row + ", first " + n, x.swap(5, n), row == n ? 1 : 0);
                tapeHas("swap", x, 0);
                rowIs("swap", x, 5, row == n ? 101 : 1, row == n ? 2 : row);
            }
        }
        for (int at = 0; at < 20; at++) {
            LetterTree x = withRow(5, 20);
            Grown.feed(x, 1, at);
            x.feed(0, 1);
            Grown.feed(x, at + 2, 19 - at);
            CHECKS.due("another byte " + at, x.swap(5, 20), 0);
            rowIs("another byte", x, 5, 1, 20);
        }
        LetterTree none = new LetterTree();
        CHECKS.due("no key, no bytes", none.swap(5, 0), 0);
        none.feed(1, 1);
        CHECKS.due("no key, one byte", none.swap(5, 0), 0);
        CHECKS.due("none is made", none.has(5), 0);
    }

    /** swap: "BAD: .. n is not 0 .. 20". */
    private static void swapTakes0To20() {
        int[] bad = {Integer.MIN_VALUE, -1, 21, 22, 40, Integer.MAX_VALUE};
        for (int n : bad) {
            LetterTree x = withRow(5, 20);
            Grown.feed(x, 1, 40);
            CHECKS.due("swap n " + n, x.swap(5, n), BAD);
            tapeHas("swap n " + n, x, 40);
            CHECKS.due("number", x.number(0), 1);
            rowIs("swap n " + n, x, 5, 1, 20);
        }
        LetterTree x = withRow(5, 20);
        Grown.feed(x, 1, 40);
        CHECKS.due("20 for 20", x.swap(5, 20), 1);
        rowIs("20 for 20", x, 5, 21, 20);
    }

    /** swap: "BAD: THE TAPE has not n bytes". */
    private static void swapIsBadWithoutNBytes() {
        for (int n = 0; n <= 20; n++) {
            LetterTree x = withRow(5, n);
            Grown.feed(x, 1, n);
            CHECKS.due("n + 1 of n bytes", x.swap(5, n + 1), BAD);
            tapeHas("n + 1 of n bytes", x, n);
            CHECKS.due("number", x.number(0), 1);
            CHECKS.due("n of n bytes, for none", x.swap(5, n), 1);
            CHECKS.due("a row of 0 bytes", x.get(5), 0);
            CHECKS.due("number", x.number(0), 2);
        }
    }

    /** swap: "BAD: .. there are more than 20 others." */
    private static void swapIsBadBeyond20Others() {
        for (int n = 0; n <= 19; n++) {
            LetterTree x = withRow(5, n);
            Grown.feed(x, 1, n + 21);
            CHECKS.due("21 others", x.swap(5, n), BAD);
            tapeHas("21 others", x, n + 21);
            rowIs("21 others", x, 5, 1, n);
            x.cut(0);
            Grown.feed(x, 1, n + 20);
            CHECKS.due("20 others", x.swap(5, n), 1);
            rowIs("20 others", x, 5, n + 1, 20);
        }
    }

    /** drop: "1 if the KEY was there, else 0." */
    private static void dropTellsWhetherTheKeyWas() {
        long[] keys = {LEAST, -1, 0, MOST};
        for (long key : keys) {
            LetterTree x = withRow(key, 0);
            CHECKS.due("one below", x.drop(key - 1), 0);
            CHECKS.due("one above", x.drop(key + 1), 0);
            CHECKS.due("it", x.drop(key), 1);
            CHECKS.due("again", x.drop(key), 0);
            CHECKS.due("each is a WRITE", x.number(0), 5);
        }
    }

    /** SWEEP: "no KEY from a to b is there"; sweep: "how many KEYS went." */
    private static void sweepHasBothEnds() {
        long[][] sweeps = {
            // a, b, how many of 10 20 30 40 50 60 go
            {9, 9, 0}, {10, 10, 1}, {11, 11, 0}, {11, 19, 0}, {10, 19, 1}, {11, 20, 1},
            {10, 20, 2}, {9, 21, 2}, {10, 60, 6}, {11, 60, 5}, {10, 59, 5}, {60, MOST, 1},
            {61, MOST, 0}, {LEAST, 10, 1}, {LEAST, 9, 0}, {LEAST, MOST, 6},
        };
        for (long[] sweep : sweeps) {
            LetterTree x = Grown.leaf(6);
            String name = "sweep(" + sweep[0] + ", " + sweep[1] + ")";
            CHECKS.due(name, x.sweep(sweep[0], sweep[1]), sweep[2]);
            CHECKS.due("count", x.count(), 6 - sweep[2]);
            for (long key = 10; key <= 60; key += 10) {
                boolean in = sweep[0] <= key && key <= sweep[1];
                CHECKS.due("has " + key, x.has(key), in ? 0 : 1);
            }
        }
        LetterTree ends = new LetterTree();
        ends.put(LEAST);
        ends.put(MOST);
        CHECKS.due("all but both ends", ends.sweep(LEAST + 1, MOST - 1), 0);
        CHECKS.due("the least", ends.sweep(LEAST, LEAST), 1);
        CHECKS.due("the greatest", ends.sweep(MOST, MOST), 1);
        CHECKS.due("none is left", ends.sweep(LEAST, MOST), 0);
    }

    /** sweep: "BAD: b is below a." */
    private static void sweepIsBadIfBIsBelowA() {
        long[] starts = {LEAST + 1, -1, 0, 1, 30, MOST};
        for (long a : starts) {
            LetterTree x = Grown.leaf(6);
            CHECKS.due("b is one below " + a, x.sweep(a, a - 1), BAD);
            CHECKS.due("b is the least", x.sweep(a, LEAST), BAD);
            CHECKS.due("no key went", x.count(), 6);
            CHECKS.due("no WRITE", x.number(0), 6);
            CHECKS.due("b is a", x.sweep(a, a), a == 30 ? 1 : 0);
        }
    }

    /** "WRITES are numbered from 1 on" */
    private static void writesAreNumberedFrom1() {
        LetterTree x = new LetterTree();
        CHECKS.due("none yet", x.number(0), 0);
        x.drop(1);
        CHECKS.due("a DROP that does nothing", x.number(0), 1);
        x.sweep(1, 1);
        CHECKS.due("a SWEEP that does nothing", x.number(0), 2);
        x.swap(1, 0);
        CHECKS.due("a SWAP that does nothing", x.number(0), 3);
        x.append(1);
        CHECKS.due("an APPEND", x.number(0), 4);
        x.put(1);
        CHECKS.due("a PUT", x.number(0), 5);
        x.get(1);
        x.sink();
        x.settle();
        x.sync();
        CHECKS.due("no WRITES", x.number(0), 5);
        LetterTree y = Grown.twoLeaves();
        y.sweep(LEAST, MOST);
        CHECKS.due("one number for all parts", y.number(0), 8);
        y.put(1);
        CHECKS.due("the part for the first", y.letter(0, 0, 1), 8);
        CHECKS.due("the part for the second", y.letter(0, 1, 1), 8);
        CHECKS.due("the next one", y.letter(0, 2, 1), 9);
    }

    /** "Acts that say TAPE take THE TAPE, which is empty then"; drop and sweep do not say it. */
    private static void writesTakeTheTape() {
        LetterTree x = new LetterTree();
        x.feed(1, 1);
        x.put(1);
        tapeHas("put", x, 0);
        x.feed(1, 1);
        x.append(1);
        tapeHas("append", x, 0);
        x.feed(1, 1);
        CHECKS.due("a swap that does nothing", x.swap(1, 1), 0);
        tapeHas("swap", x, 0);
        Grown.feed(x, 1, 40);
        x.drop(1);
        tapeHas("drop", x, 40);
        x.sweep(1, 1);
        tapeHas("sweep", x, 40);
    }

    /** "THE MAP is what all LETTERS, each ACTED by NUMBER, make of nothing." */
    private static void lettersInARoomActByNumber() {
        LetterTree x = Grown.twoLeaves();
        x.drop(10);
        CHECKS.due("behind a DROP an APPEND is a PUT", append(x, 10, 19), 19);
        CHECKS.due("cut at 20", append(x, 10, 2), 20);
        CHECKS.due("swept", x.sweep(10, 10), 1);
        CHECKS.due("a SWAP of none", x.swap(10, 0), 0);
        CHECKS.due("an APPEND of nothing", x.append(10), 0);
        CHECKS.due("a SWAP of the row of 0 bytes", x.swap(10, 0), 1);
        CHECKS.due("all lie in the room", x.letters(), 7);
        CHECKS.due("the row", x.get(10), 0);
        x.settle();
        CHECKS.due("and in the leaf", x.get(10), 0);
        CHECKS.due("an entry", x.page(1, 1), 4);
    }

    private static int append(LetterTree x, long key, int n) {
        Grown.feed(x, 1, n);
        return x.append(key);
    }
}
