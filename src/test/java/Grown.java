/** Objects that the tests begin with. */
final class Grown {
    private Grown() {
    }

    static void puts(LetterTree x, long first, long last) {
        for (long key = first; key <= last; key++) {
            x.put(key);
        }
    }

    /** THE TAPE has n bytes more: from, from + 1, .. */
    static void feed(LetterTree x, int from, int n) {
        for (int i = 0; i < n; i++) {
            x.feed(from + i, 1);
        }
    }

    /** A LEAF with n ENTRIES, 10 20 30 .. */
    static LetterTree leaf(int n) {
        LetterTree x = new LetterTree();
        for (int i = 1; i <= n; i++) {
            x.put(10 * i);
        }
        return x;
    }

    /** Two LEAVES, 10 20 30 40 and 50 60 70. */
    static LetterTree twoLeaves() {
        return leaf(7);
    }

    /** Three LEAVES: 10 20 30 40, 50 60 70 101 and 102 103 104. */
    static LetterTree threeLeaves() {
        LetterTree x = twoLeaves();
        puts(x, 101, 104);
        x.settle();
        return x;
    }

    /** Five LEAVES below the root: three more, of 4, 4 and 3 ENTRIES, up to 304. */
    static LetterTree fiveLeaves() {
        LetterTree x = threeLeaves();
        puts(x, 201, 204);
        x.settle();
        puts(x, 301, 304);
        x.settle();
        return x;
    }

    /** Two INNER PAGES with three LEAVES each below the root; the BORDER between them is 102. */
    static LetterTree threeLevels() {
        LetterTree x = fiveLeaves();
        puts(x, 11, 13);
        x.settle();
        return x;
    }
}
