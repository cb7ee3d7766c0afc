/** Promises 16 to 24: sink, settle, pages, height, letters, page, border, letter, met. */
public final class TreeTest {
    private static final Checks CHECKS = new Checks();
    private static final int NONE = LetterTree.NONE, DOWN = LetterTree.DOWN;

    public static void main(String[] args) {
        oneLeaf();
        leafIsParted();
        roomTakesEight();
        sinkTakesTheFullestKid();
        sweepComesInParts();
        partedInThree();
        settleCounts();
        settlePartsUpward();
        settlePartsAheadOfTheNextSink();
        rootIsPartedBehindTheWrite();
        innerSweepIsCutAgain();
        changedMarks();
        refusals();
        CHECKS.end();
    }

    /** Two LEAVES, 10 20 30 40 and 50 60 70. */
    private static LetterTree twoLeaves() {
        LetterTree x = new LetterTree();
        for (long key = 10; key <= 70; key += 10) {
            x.put(key);
        }
        return x;
    }

    private static void puts(LetterTree x, long first, long last) {
        for (long key = first; key <= last; key++) {
            x.put(key);
        }
    }

    private static void page(LetterTree x, int i, int kind, int size, int letters) {
        CHECKS.due("page(" + i + ", 0)", x.page(i, 0), kind);
        CHECKS.due("page(" + i + ", 1)", x.page(i, 1), size);
        CHECKS.due("page(" + i + ", 2)", x.page(i, 2), letters);
    }

    private static void border(LetterTree x, int i, int k, long key) {
        CHECKS.due("border(" + i + ", " + k + ")", x.border(i, k), 1);
        CHECKS.due("found border(" + i + ", " + k + ")", x.found(), key);
    }

    private static void oneLeaf() {
        LetterTree x = new LetterTree();
        page(x, 0, 0, 0, 0);
        CHECKS.due("height", x.height(), 1);
        CHECKS.due("letters", x.letters(), 0);
        CHECKS.due("sink", x.sink(), 0);
        CHECKS.due("settle", x.settle(), 0);
        CHECKS.due("met", x.met(1), 0);
        CHECKS.due("made, so CHANGED", x.page(0, 3), NONE);
        CHECKS.due("no entry", x.border(0, 1), NONE);
        puts(x, 1, 6);
        page(x, 0, 0, 6, 0);
        border(x, 0, 1, 1);
        border(x, 0, 6, 6);
        CHECKS.due("entry 0", x.border(0, 0), NONE);
        CHECKS.due("entry 7", x.border(0, 7), NONE);
        CHECKS.due("a write to a leaf acts", x.letters(), 0);
    }

    private static void leafIsParted() {
        LetterTree x = twoLeaves();
        CHECKS.due("pages", x.pages(), 3);
        CHECKS.due("height", x.height(), 2);
        page(x, 0, 1, 2, 0);
        page(x, 1, 0, 4, 0);
        page(x, 2, 0, 3, 0);
        border(x, 0, 1, 50);
        CHECKS.due("border 0", x.border(0, 0), NONE);
        CHECKS.due("border 2", x.border(0, 2), NONE);
        border(x, 1, 4, 40);
        border(x, 2, 1, 50);
        CHECKS.due("sink without letters", x.sink(), 0);
        CHECKS.due("no page 3", x.page(3, 0), NONE);
        CHECKS.due("no page -1", x.page(-1, 0), NONE);
        CHECKS.due("no what 4", x.page(0, 4), NONE);
        CHECKS.due("no what -1", x.page(0, -1), NONE);
        CHECKS.due("no border of page 3", x.border(3, 1), NONE);
    }

    private static void roomTakesEight() {
        LetterTree x = twoLeaves();
        x.drop(49);
        x.append(50);
        x.swap(51, 0);
        puts(x, 52, 56);
        page(x, 0, 1, 2, 8);
        CHECKS.due("a DROP", x.letter(0, 0, 0), 4);
        CHECKS.due("an APPEND", x.letter(0, 1, 0), 2);
        CHECKS.due("a SWAP", x.letter(0, 2, 0), 3);
        CHECKS.due("a PUT", x.letter(0, 3, 0), 1);
        CHECKS.due("the first's number", x.letter(0, 0, 1), 8);
        CHECKS.due("the last's number", x.letter(0, 7, 1), 15);
        CHECKS.due("no letter 8", x.letter(0, 8, 0), NONE);
        CHECKS.due("no letter -1", x.letter(0, -1, 0), NONE);
        CHECKS.due("no what 2", x.letter(0, 0, 2), NONE);
        CHECKS.due("no what -1", x.letter(0, 0, -1), NONE);
        CHECKS.due("none in a leaf", x.letter(1, 0, 0), NONE);
        CHECKS.due("no page 3", x.letter(3, 0, 0), NONE);
        CHECKS.due("met(50)", x.met(50), 1);
        CHECKS.due("met(48)", x.met(48), 0);
        x.put(52);
        // The ninth: 8 LETTERS go to the second LEAF, which has 3 + 5 ENTRIES then.
        CHECKS.due("one is left", x.letters(), 1);
        CHECKS.due("the DROP", x.letter(0, 0, 1), 8);
        page(x, 0, 1, 3, 1);
        page(x, 2, 0, 4, 0);
        page(x, 3, 0, 4, 0);
        border(x, 0, 2, 55);
    }

    private static void sinkTakesTheFullestKid() {
        LetterTree x = twoLeaves();
        puts(x, 51, 54);
        puts(x, 11, 14);
        CHECKS.due("of two the first", x.sink(), 4);
        page(x, 0, 1, 3, 4);
        page(x, 1, 0, 4, 0);
        page(x, 2, 0, 4, 0);
        border(x, 0, 1, 14);
        border(x, 0, 2, 50);
        CHECKS.due("then the other", x.sink(), 4);
        CHECKS.due("nothing is left", x.sink(), 0);
        page(x, 0, 1, 4, 0);
        border(x, 0, 3, 54);
    }

    private static void sweepComesInParts() {
        LetterTree x = twoLeaves();
        puts(x, 51, 54);
        puts(x, 11, 14);
        x.sink();
        CHECKS.due("sweep", x.sweep(12, 60), 12);
        // 12 .. 13, 14 .. 49 and 50 .. 60, behind four PUTS.
        page(x, 0, 1, 3, 7);
        for (int k = 4; k < 7; k++) {
            CHECKS.due("a SWEEP", x.letter(0, k, 0), 5);
            CHECKS.due("its number", x.letter(0, k, 1), 16);
        }
        CHECKS.due("met ahead", x.met(11), 0);
        CHECKS.due("met at its beginning", x.met(12), 1);
        CHECKS.due("met at a border", x.met(14), 1);
        CHECKS.due("met a put and a sweep", x.met(52), 2);
        CHECKS.due("met at its end", x.met(60), 1);
        CHECKS.due("met behind", x.met(61), 0);
        CHECKS.due("the third kid has most", x.sink(), 5);
        page(x, 3, 0, 1, 0);
        CHECKS.due("the parts that are left", x.letters(), 2);
        CHECKS.due("settle", x.settle(), 2);
        page(x, 1, 0, 2, 0);
        page(x, 2, 0, 0, 0);
        CHECKS.due("a leaf without entries stays", x.pages(), 4);
        CHECKS.due("count", x.count(), 3);
        CHECKS.due("a sweep for one kid", x.sweep(50, 51), 0);
        CHECKS.due("one part", x.letters(), 1);
        x.sweep(49, 50);
        CHECKS.due("two parts", x.letters(), 3);
        x.sweep(Long.MIN_VALUE, Long.MAX_VALUE);
        CHECKS.due("three parts", x.letters(), 6);
        CHECKS.due("met", x.met(Long.MIN_VALUE), 1);
        CHECKS.due("met", x.met(Long.MAX_VALUE), 1);
    }

    private static void partedInThree() {
        LetterTree x = twoLeaves();
        puts(x, 11, 19);
        // 13 ENTRIES: 5 + 4 + 4.
        page(x, 0, 1, 4, 0);
        page(x, 1, 0, 5, 0);
        page(x, 2, 0, 4, 0);
        page(x, 3, 0, 4, 0);
        page(x, 4, 0, 3, 0);
        border(x, 0, 1, 15);
        border(x, 0, 2, 19);
        border(x, 0, 3, 50);
    }

    private static void settleCounts() {
        LetterTree x = twoLeaves();
        CHECKS.due("nothing to do", x.settle(), 0);
        x.put(1);
        x.put(2);
        CHECKS.due("for one kid", x.settle(), 1);
        x.put(3);
        x.drop(99);
        CHECKS.due("for two", x.settle(), 2);
        CHECKS.due("no letters", x.letters(), 0);
    }

    /** Five LEAVES of 3 or 4 below the root: one part more and the root is PARTED in 3 and 3. */
    private static LetterTree fiveLeaves() {
        LetterTree x = twoLeaves();
        for (int leaf = 0; leaf < 3; leaf++) {
            for (long key = 100 * leaf + 101; key <= 100 * leaf + 104; key++) {
                x.put(key);
            }
            x.settle();
        }
        return x;
    }

    private static void settlePartsUpward() {
        LetterTree x = fiveLeaves();
        CHECKS.due("leaves", x.page(0, 1), 5);
        CHECKS.due("height", x.height(), 2);
        x.put(11);
        x.put(12);
        x.put(13);
        x.put(303);
        CHECKS.due("two sinks", x.settle(), 2);
        // The first LEAF is PARTED at once, the root too, and the PUT of 303 goes to a part.
        CHECKS.due("height", x.height(), 3);
        page(x, 0, 1, 2, 0);
        page(x, 1, 1, 3, 0);
        page(x, 5, 1, 3, 0);
        CHECKS.due("pages", x.pages(), 9);
        border(x, 0, 1, 102);
    }

    private static void settlePartsAheadOfTheNextSink() {
        LetterTree x = fiveLeaves();
        puts(x, 11, 14);
        puts(x, 305, 308);
        page(x, 0, 1, 5, 8);
        CHECKS.due("two sinks", x.settle(), 2);
        // Six KIDS are PARTED in 3 and 3; then the second part's last LEAF is PARTED.
        page(x, 0, 1, 2, 0);
        page(x, 1, 1, 3, 0);
        page(x, 5, 1, 4, 0);
    }

    private static void rootIsPartedBehindTheWrite() {
        LetterTree x = fiveLeaves();
        x.put(11);
        x.put(12);
        x.put(13);
        x.put(303);
        x.put(102);
        CHECKS.due("sink", x.sink(), 3);
        CHECKS.due("height", x.height(), 3);
        page(x, 0, 1, 2, 0);
        page(x, 1, 1, 3, 0);
        page(x, 5, 1, 3, 2);
        CHECKS.due("letters keep their order", x.letter(5, 0, 1), x.number(0) - 1);
        CHECKS.due("and the later one", x.letter(5, 1, 1), x.number(0));
        CHECKS.due("met below the root", x.met(303), 1);
        CHECKS.due("there", x.has(13), 1);
    }

    private static void innerSweepIsCutAgain() {
        LetterTree x = fiveLeaves();
        puts(x, 11, 13);
        x.settle();
        x.sweep(Long.MIN_VALUE, Long.MAX_VALUE);
        CHECKS.due("two parts", x.letters(), 2);
        CHECKS.due("sink", x.sink(), 1);
        CHECKS.due("cut in three", x.letters(), 4);
        page(x, 1, 1, 3, 3);
        CHECKS.due("met once", x.met(11), 1);
        CHECKS.due("settle by number", x.settle(), 1 + 3 + 3);
        CHECKS.due("pages stay", x.pages(), 9);
    }

    private static void changedMarks() {
        LetterTree x = new LetterTree();
        x.feed(1, 1);
        x.put(5);
        x.sync();
        CHECKS.due("written", x.page(0, 3), 0);
        x.drop(6);
        x.sweep(6, 9);
        x.swap(5, 0);
        x.swap(6, 0);
        CHECKS.due("nothing was done", x.page(0, 3), 0);
        x.feed(0x0101, 2);
        CHECKS.due("to the same", x.swap(5, 1), 1);
        CHECKS.due("CHANGED by a SWAP", x.page(0, 3), NONE);
        x.sync();
        x.append(5);
        CHECKS.due("CHANGED by an APPEND", x.page(0, 3), NONE);
        x.sync();
        x.feed(1, 1);
        x.put(5);
        CHECKS.due("CHANGED by a PUT", x.page(0, 3), NONE);
        x.sync();
        x.drop(5);
        CHECKS.due("CHANGED by a DROP", x.page(0, 3), NONE);
        innerMarks();
    }

    private static void innerMarks() {
        LetterTree x = twoLeaves();
        x.sync();
        CHECKS.due("kids first", x.page(1, 3), 0);
        CHECKS.due("from the first on", x.page(2, 3), 1);
        CHECKS.due("then the page", x.page(0, 3), 2);
        x.drop(11);
        CHECKS.due("the root has a letter", x.page(0, 3), NONE);
        x.sync();
        x.settle();
        CHECKS.due("the root has it no more", x.page(0, 3), NONE);
        CHECKS.due("the leaf is as it was", x.page(1, 3), 0);
        x.sync();
        x.put(71);
        x.settle();
        CHECKS.due("a leaf is CHANGED", x.page(2, 3), NONE);
        CHECKS.due("not the other", x.page(1, 3), 0);
    }

    private static void refusals() {
        LetterTree x = twoLeaves();
        x.crash();
        CHECKS.due("sink", x.sink(), DOWN);
        CHECKS.due("settle", x.settle(), DOWN);
        CHECKS.due("pages", x.pages(), DOWN);
        CHECKS.due("height", x.height(), DOWN);
        CHECKS.due("letters", x.letters(), DOWN);
        CHECKS.due("page", x.page(-1, 9), DOWN);
        CHECKS.due("border", x.border(-1, 0), DOWN);
        CHECKS.due("letter", x.letter(-1, 0, 9), DOWN);
        CHECKS.due("met", x.met(0), DOWN);
    }
}
