/** Section 2 of the terms: "A PAGE is CHANGED if ..", clause by clause, and what is not. */
public final class ChangedTest {
    private static final Checks CHECKS = new Checks();
    private static final int NONE = LetterTree.NONE;
    private static final long LEAST = Long.MIN_VALUE, MOST = Long.MAX_VALUE;

    public static void main(String[] args) {
        whatWasMade();
        entriesBecameOthers();
        rowsBecameTheSame();
        whatDoesNothing();
        sweepsAtTheirEnds();
        othersAndTheSameAgain();
        lettersCameAndWent();
        aKidIsChanged();
        aKidWasParted();
        theRootWasParted();
        writtenSince();
        CHECKS.end();
    }

    /** The PAGES that are CHANGED, as a text: 1 for each that is, 0 for each that is not. */
    private static String changed(LetterTree x) {
        StringBuilder text = new StringBuilder();
        for (int i = 0; i < x.pages(); i++) {
            text.append(x.page(i, 3) == NONE ? 1 : 0);
        }
        return text.toString();
    }

    private static void changedIs(String when, LetterTree x, String want) {
        String got = changed(x);
        CHECKS.holds(when + ": " + got + ", due is " + want, got.equals(want));
        int pages = want.replace("0", "").length();
        CHECKS.due(when + ": it writes what is CHANGED, and a head", x.sync(), pages + 1);
        CHECKS.holds(when + ": CHANGED no more", changed(x).equals(want.replace('1', '0')));
    }

    private static LetterTree synced(LetterTree x) {
        x.sync();
        return x;
    }

    /** A LEAF with KEY 5, whose ROW is the byte 1, and KEY 8 with a ROW of 0 bytes. */
    private static LetterTree smallLeaf() {
        LetterTree x = new LetterTree();
        x.feed(1, 1);
        x.put(5);
        x.put(8);
        return synced(x);
    }

    /** "if it was made" */
    private static void whatWasMade() {
        changedIs("a new leaf", new LetterTree(), "1");
        changedIs("parted, with a new root", Grown.leaf(7), "111");
        LetterTree x = smallLeaf();
        x.crash();
        x.bend(1);
        x.rise();
        changedIs("as at first", x, "1");
    }

    /** "or its ENTRIES .. became others since it was written" */
    private static void entriesBecameOthers() {
        LetterTree x = smallLeaf();
        x.put(6);
        changedIs("a PUT of a new key", x, "1");
        x.append(7);
        changedIs("an APPEND of a new key", x, "1");
        x.drop(7);
        changedIs("a DROP", x, "1");
        x.sweep(6, 7);
        changedIs("a SWEEP", x, "1");
        x.feed(0x0102, 2);
        x.swap(5, 1);
        changedIs("a SWAP", x, "1");
    }

    /** "ROWS (also to the same, by a PUT, APPEND or SWAP that is done" */
    private static void rowsBecameTheSame() {
        LetterTree x = smallLeaf();
        x.feed(1, 1);
        x.put(5);
        changedIs("a PUT of the same", x, "1");
        x.put(8);
        changedIs("a PUT of the same 0 bytes", x, "1");
        x.append(5);
        changedIs("an APPEND of nothing", x, "1");
        x.feed(0x0101, 2);
        CHECKS.due("it is done", x.swap(5, 1), 1);
        changedIs("a SWAP for the same", x, "1");
        CHECKS.due("it is done", x.swap(8, 0), 1);
        changedIs("a SWAP of nothing for nothing", x, "1");
        Grown.feed(x, 1, 20);
        x.put(9);
        x.sync();
        x.feed(1, 1);
        CHECKS.due("cut at 20", x.append(9), 20);
        changedIs("an APPEND behind 20 bytes", x, "1");
    }

    /** "not by a DROP, SWEEP, SWAP that does nothing" */
    private static void whatDoesNothing() {
        LetterTree x = smallLeaf();
        x.drop(4);
        x.drop(6);
        changedIs("a DROP of none", x, "0");
        x.sweep(6, 7);
        changedIs("a SWEEP of none", x, "0");
        x.swap(5, 0);
        x.feed(2, 1);
        x.swap(5, 1);
        x.feed(0x0101, 2);
        x.swap(5, 2);
        changedIs("a SWAP of another row", x, "0");
        x.swap(6, 0);
        changedIs("a SWAP of none", x, "0");
        x.get(5);
        x.cut(0);
        x.next(LEAST);
        x.border(0, 1);
        x.sink();
        x.settle();
        changedIs("calls that write nothing", x, "0");
        Grown.feed(x, 1, 21);
        x.put(5);
        x.append(5);
        x.swap(5, 0);
        x.sweep(8, 5);
        changedIs("WRITES that are refused", x, "0");
    }

    private static void sweepsAtTheirEnds() {
        long[][] rows = {
            {LEAST, 4, 0}, {LEAST, 5, 1}, {5, 5, 1}, {6, 7, 0}, {6, 8, 1}, {8, 8, 1}, {9, MOST, 0},
        };
        for (long[] row : rows) {
            LetterTree x = smallLeaf();
            x.sweep(row[0], row[1]);
            changedIs("sweep(" + row[0] + ", " + row[1] + ")", x, row[2] == 1 ? "1" : "0");
        }
    }

    /** They became others since it was written, and then others again. */
    private static void othersAndTheSameAgain() {
        LetterTree x = smallLeaf();
        x.put(6);
        x.drop(6);
        changedIs("a PUT and a DROP", x, "1");
        LetterTree y = synced(Grown.twoLeaves());
        y.drop(1);
        y.put(1);
        y.drop(1);
        y.sink();
        changedIs("a DROP, a PUT and a DROP at once", y, "110");
    }

    /** "LETTERS became others" */
    private static void lettersCameAndWent() {
        LetterTree x = synced(Grown.twoLeaves());
        x.drop(1);
        changedIs("one came", x, "100");
        x.swap(51, 0);
        x.sweep(51, 52);
        changedIs("more came", x, "100");
        CHECKS.due("two for the second", x.sink(), 2);
        changedIs("two went, and did nothing", x, "100");
        CHECKS.due("one for the first", x.sink(), 1);
        changedIs("one went, and did nothing", x, "100");
        CHECKS.due("none", x.sink(), 0);
        changedIs("none went", x, "000");
        LetterTree y = synced(Grown.threeLevels());
        y.sweep(1, 9);
        changedIs("one came to the root", y, "100000000");
        y.sink();
        changedIs("it went to its kid", y, "110000000");
        y.settle();
        changedIs("it went to a leaf, and did nothing", y, "110000000");
        y.sweep(1, 9);
        y.settle();
        changedIs("it came to both and went", y, "110000000");
    }

    /** "or a KID of it is CHANGED" */
    private static void aKidIsChanged() {
        LetterTree x = synced(Grown.threeLevels());
        x.put(205);
        x.sink();
        changedIs("the letter lies below", x, "100001000");
        x.settle();
        changedIs("a leaf, and all above it", x, "100001010");
        x.put(10);
        x.put(304);
        x.settle();
        changedIs("two leaves", x, "111001001");
    }

    /** "KIDS, BORDERS .. became others" */
    private static void aKidWasParted() {
        LetterTree x = synced(Grown.threeLeaves());
        Grown.puts(x, 51, 53);
        x.sink();
        changedIs("both parts were made", x, "10110");
        LetterTree y = synced(Grown.threeLevels());
        Grown.puts(y, 14, 16);
        y.settle();
        changedIs("below an inner page", y, "1111000000");
    }

    private static void theRootWasParted() {
        LetterTree x = synced(Grown.fiveLeaves());
        Grown.puts(x, 11, 13);
        x.settle();
        changedIs("the root, its parts and those of a leaf", x, "111101000");
        LetterTree leaf = synced(Grown.leaf(6));
        leaf.put(7);
        changedIs("a root that was a leaf", leaf, "111");
    }

    /** "since it was written" */
    private static void writtenSince() {
        LetterTree x = smallLeaf();
        x.put(5);
        CHECKS.due("CHANGED", x.page(0, 3), NONE);
        x.picture();
        CHECKS.due("written by a picture", x.page(0, 3), 1);
        x.put(5);
        x.fall(2);
        x.sync();
        x.rise();
        CHECKS.due("a head that is read", x.page(0, 3), 1);
        x.bend(0);
        x.bend(1);
        CHECKS.due("without heads", x.page(0, 3), 1);
        changedIs("without heads", x, "0");
    }
}
