/** Promises 2 to 4, sentence by sentence: what lies at an edge, one below it, one above it. */
public final class TapeEdgesTest {
    private static final Checks CHECKS = new Checks();
    private static final int NONE = LetterTree.NONE, BAD = LetterTree.BAD;
    private static final int[] FAR = {Integer.MIN_VALUE, -256, 41, 256, Integer.MAX_VALUE};

    public static void main(String[] args) {
        feedTakesTheLowestBytesTheHighestFirst();
        feedIsBadWithout1To8();
        feedIsBadBeyond40();
        cutKeepsTheFirst();
        cutIsBadBeyondTheTape();
        cutIsBadBelow0();
        byteAtIs0To255();
        byteAtIsNoneOutside();
        CHECKS.end();
    }

    private static LetterTree withTape(int n) {
        LetterTree x = new LetterTree();
        Grown.feed(x, 1, n);
        return x;
    }

    /** THE TAPE has the bytes 1 .. n and no more. */
    private static void tapeIs(String when, LetterTree x, int n) {
        for (int i = 0; i < n; i++) {
            CHECKS.due(when + ": byte " + i, x.byteAt(i), i + 1);
        }
        CHECKS.due(when + ": behind the last", x.byteAt(n), NONE);
    }

    /** "The n lowest bytes of w, the highest first, come behind THE TAPE's: how many it has." */
    private static void feedTakesTheLowestBytesTheHighestFirst() {
        long w = 0x8091a2b3c4d5e6f7L;
        int[] bytes = {0x80, 0x91, 0xa2, 0xb3, 0xc4, 0xd5, 0xe6, 0xf7};
        for (int n = 1; n <= 8; n++) {
            LetterTree x = withTape(3);
            CHECKS.due("feed " + n, x.feed(w, n), 3 + n);
            CHECKS.due("those there stay", x.byteAt(2), 3);
            for (int i = 0; i < n; i++) {
                CHECKS.due("feed " + n + ": byte " + i, x.byteAt(3 + i), bytes[8 - n + i]);
            }
            CHECKS.due("no more", x.byteAt(3 + n), NONE);
        }
    }

    /** "BAD: n is not 1 .. 8". */
    private static void feedIsBadWithout1To8() {
        LetterTree x = withTape(4);
        int[] bad = {0, -1, -8, 9, 16};
        for (int n : bad) {
            CHECKS.due("feed(-1, " + n + ")", x.feed(-1, n), BAD);
        }
        for (int n : FAR) {
            CHECKS.due("feed(-1, " + n + ")", x.feed(-1, n), BAD);
        }
        tapeIs("behind a feed that is BAD", x, 4);
        CHECKS.due("feed 1", x.feed(5, 1), 5);
        CHECKS.due("feed 8", x.feed(5, 8), 13);
    }

    /** "or it would have more than 40." */
    private static void feedIsBadBeyond40() {
        for (int n = 1; n <= 8; n++) {
            LetterTree one = withTape(41 - n);
            CHECKS.due("41 bytes by " + n, one.feed(-1, n), BAD);
            tapeIs("41 bytes by " + n, one, 41 - n);
            LetterTree full = withTape(40 - n);
            CHECKS.due("40 bytes by " + n, full.feed(-1, n), 40);
            CHECKS.due("the last one", full.byteAt(39), 255);
            CHECKS.due("one more", full.feed(7, 1), BAD);
            CHECKS.due("the last one stays", full.byteAt(39), 255);
            CHECKS.due("n is BAD, too", full.feed(7, 0), BAD);
        }
    }

    /** "THE TAPE keeps its first n bytes: n." */
    private static void cutKeepsTheFirst() {
        for (int n = 0; n <= 40; n++) {
            LetterTree x = withTape(40);
            CHECKS.due("cut(" + n + ")", x.cut(n), n);
            tapeIs("cut(" + n + ")", x, n);
        }
        LetterTree y = withTape(3);
        y.cut(1);
        CHECKS.due("feed comes behind what is left", y.feed(2, 1), 2);
        tapeIs("cut, then fed", y, 2);
    }

    /** "BAD: it has not so many". */
    private static void cutIsBadBeyondTheTape() {
        int[] sizes = {0, 1, 20, 39, 40};
        for (int size : sizes) {
            LetterTree x = withTape(size);
            CHECKS.due("cut one more than " + size, x.cut(size + 1), BAD);
            CHECKS.due("cut far more than " + size, x.cut(Integer.MAX_VALUE), BAD);
            tapeIs("a cut that is BAD", x, size);
            CHECKS.due("cut(" + size + ")", x.cut(size), size);
            tapeIs("cut(" + size + ")", x, size);
        }
        LetterTree y = withTape(8);
        y.cut(7);
        CHECKS.due("what was cut is there no more", y.cut(8), BAD);
    }

    /** "n below 0." */
    private static void cutIsBadBelow0() {
        LetterTree x = withTape(2);
        CHECKS.due("cut(-1)", x.cut(-1), BAD);
        CHECKS.due("the least n", x.cut(Integer.MIN_VALUE), BAD);
        tapeIs("a cut below 0", x, 2);
        CHECKS.due("cut(0)", x.cut(0), 0);
        tapeIs("cut(0)", x, 0);
        CHECKS.due("cut(-1) of nothing", x.cut(-1), BAD);
        CHECKS.due("cut(0) of nothing", x.cut(0), 0);
    }

    /** "Byte i of THE TAPE, 0 .. 255." */
    private static void byteAtIs0To255() {
        for (int value = 0; value < 256; value++) {
            LetterTree x = new LetterTree();
            x.feed(value, 1);
            CHECKS.due("byte " + value, x.byteAt(0), value);
            x.put(value);
            x.get(value);
            CHECKS.due("byte " + value + " of a row", x.byteAt(0), value);
        }
    }

    /** "NONE." */
    private static void byteAtIsNoneOutside() {
        int[] sizes = {0, 1, 39, 40};
        for (int size : sizes) {
            LetterTree x = withTape(size);
            CHECKS.due("one below the first", x.byteAt(-1), NONE);
            CHECKS.due("the last of " + size, x.byteAt(size - 1), size == 0 ? NONE : size);
            CHECKS.due("one behind " + size, x.byteAt(size), NONE);
            for (int i : FAR) {
                CHECKS.due("byteAt(" + i + ")", x.byteAt(i), NONE);
            }
        }
    }
}
