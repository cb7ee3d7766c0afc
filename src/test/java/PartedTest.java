/** Section 2 of the terms: when a PAGE is too big, and what it is PARTED into. */
public final class PartedTest {
    private static final Checks CHECKS = new Checks();
    private static final int NONE = LetterTree.NONE;

    public static void main(String[] args) {
        aLeafHas6Entries();
        aRootLeafHas6Entries();
        anInnerPageHas5Kids();
        leavesAreAsEvenAsCanBe();
        bigLeavesAreAsEvenAsCanBe();
        innerPagesAreAsEvenAsCanBe();
        bordersAreFirstKeys();
        bordersOfInnerPagesStay();
        lettersGoToTheirPart();
        theNewRootIsEmpty();
        theRootIsPartedBehindTheWrite();
        settlePartsAndSoOnUp();
        CHECKS.end();
    }

    private static int[] evenly(int all, int most) {
        int parts = 1;
        while (parts * most < all) {
            parts++;
        }
        int[] sizes = new int[parts];
        for (int i = 0; i < all; i++) {
            sizes[i % parts]++;
        }
        return sizes;
    }

    /** The PAGES from i on are LEAVES of these sizes. */
    private static void leavesFrom(String when, LetterTree x, int i, int... sizes) {
        for (int k = 0; k < sizes.length; k++) {
            CHECKS.due(when + ": page " + (i + k) + " is a leaf", x.page(i + k, 0), 0);
            CHECKS.due(when + ": leaf " + k, x.page(i + k, 1), sizes[k]);
        }
    }

    private static void borderIs(String when, LetterTree x, int i, int k, long key) {
        CHECKS.due(when + ": border " + k, x.border(i, k), 1);
        CHECKS.due(when + ": border " + k + " is", x.found(), key);
    }

    private static void inner(LetterTree x, int i, int kids, int letters) {
        CHECKS.due("page " + i + " is INNER", x.page(i, 0), 1);
        CHECKS.due("kids of page " + i, x.page(i, 1), kids);
        CHECKS.due("letters of page " + i, x.page(i, 2), letters);
    }

    /** "Too big: a LEAF with more than 6 ENTRIES" */
    private static void aLeafHas6Entries() {
        LetterTree x = Grown.twoLeaves();
        x.put(41);
        x.put(42);
        x.sink();
        leavesFrom("6 entries", x, 1, 6, 3);
        x.put(42);
        x.sink();
        leavesFrom("a key that was there", x, 1, 6, 3);
        x.put(43);
        x.drop(42);
        x.sink();
        leavesFrom("7 entries on the way, then 6", x, 1, 6, 3);
        x.put(42);
        x.sink();
        leavesFrom("7 entries", x, 1, 4, 3, 3);
        CHECKS.due("pages", x.pages(), 4);
    }

    private static void aRootLeafHas6Entries() {
        LetterTree x = Grown.leaf(6);
        CHECKS.due("6 entries", x.pages(), 1);
        x.put(60);
        CHECKS.due("a key that was there", x.pages(), 1);
        x.append(61);
        CHECKS.due("7 entries", x.pages(), 3);
        inner(x, 0, 2, 0);
        leavesFrom("7 entries", x, 1, 4, 3);
    }

    /** "an INNER PAGE with more than 5 KIDS" */
    private static void anInnerPageHas5Kids() {
        LetterTree x = Grown.fiveLeaves();
        inner(x, 0, 5, 0);
        CHECKS.due("5 kids", x.height(), 2);
        Grown.puts(x, 11, 12);
        x.sink();
        inner(x, 0, 5, 0);
        x.put(13);
        CHECKS.due("not yet", x.height(), 2);
        x.sink();
        CHECKS.due("6 kids", x.height(), 3);
        inner(x, 0, 2, 0);
        inner(x, 1, 3, 0);
        inner(x, 5, 3, 0);
    }

    /** "into the least number of PAGES that are not too big, as even as can be, the first ones.." */
    private static void leavesAreAsEvenAsCanBe() {
        for (int all = 7; all <= 15; all++) {
            LetterTree x = Grown.twoLeaves();
            Grown.puts(x, 41, 42);
            x.sink();
            Grown.puts(x, 1, all - 6);
            if (all < 15) {
                CHECKS.due("at once", x.sink(), all - 6);
            }
            int[] sizes = evenly(all, 6);
            leavesFrom(all + " entries", x, 1, sizes);
            inner(x, 0, sizes.length + 1, 0);
            leavesFrom("the other", x, sizes.length + 1, 3);
        }
    }

    /** Page 1 is INNER; its first LEAF has 6 ENTRIES and is given 8 + more new ones at once. */
    private static void fillFirstLeaf(LetterTree x, int more) {
        Grown.puts(x, 14, 15);
        x.settle();
        Grown.puts(x, -8, -1);
        CHECKS.due("8 letters wait below the root", x.sink(), 8);
        for (int i = 0; i < 9; i++) {
            x.put(i < more ? -9 - i : -1);
        }
    }

    private static void bigLeavesAreAsEvenAsCanBe() {
        for (int all = 14; all <= 18; all++) {
            LetterTree x = Grown.threeLevels();
            fillFirstLeaf(x, all - 14);
            leavesFrom(all + " entries", x, 2, evenly(all, 6));
            inner(x, 0, 2, 0);
            inner(x, 1, 5, 0);
        }
        for (int all = 19; all <= 23; all++) {
            LetterTree x = Grown.threeLevels();
            fillFirstLeaf(x, all - 14);
            int[] sizes = evenly(all, 6);
            inner(x, 0, 3, 0);
            inner(x, 1, 3, 0);
            leavesFrom(all + " entries", x, 2, sizes[0], sizes[1], sizes[2]);
            inner(x, 5, 3, 0);
            leavesFrom(all + " entries, the fourth", x, 6, sizes[3], 3, 4);
        }
    }

    /** 6 KIDS in 3 and 3, 7 in 4 and 3, 8 in 4 and 4. */
    private static void innerPagesAreAsEvenAsCanBe() {
        LetterTree six = Grown.fiveLeaves();
        Grown.puts(six, 1, 8);
        CHECKS.due("12 entries in two", six.sink(), 8);
        inner(six, 1, 3, 0);
        inner(six, 5, 3, 0);
        LetterTree seven = Grown.fiveLeaves();
        Grown.puts(seven, 1, 9);
        inner(seven, 0, 2, 0);
        inner(seven, 1, 4, 0);
        inner(seven, 6, 3, 0);
        leavesFrom("13 entries in three", seven, 2, 5, 4, 4, 4);
        LetterTree eight = Grown.threeLevels();
        Grown.puts(eight, 21, 24);
        Grown.puts(eight, 71, 73);
        eight.settle();
        inner(eight, 1, 5, 0);
        fillFirstLeaf(eight, 5);
        inner(eight, 0, 3, 0);
        inner(eight, 1, 4, 0);
        leavesFrom("19 entries in four", eight, 2, 5, 5, 5, 4);
        inner(eight, 6, 4, 0);
        leavesFrom("the others", eight, 7, 4, 3, 4, 3);
    }

    /** "the BORDER ahead of a part of a LEAF is its first KEY" */
    private static void bordersAreFirstKeys() {
        LetterTree x = Grown.twoLeaves();
        Grown.puts(x, 1, 9);
        // 1 .. 5, 6 .. 9, 10 20 30 40 (13 in three: 5, 4, 4)
        leavesFrom("13 entries", x, 1, 5, 4, 4, 3);
        borderIs("parted", x, 0, 1, 6);
        borderIs("parted", x, 0, 2, 10);
        borderIs("parted", x, 0, 3, 50);
        CHECKS.due("no border 4", x.border(0, 4), NONE);
        borderIs("the first part", x, 1, 5, 5);
        borderIs("the second part", x, 2, 1, 6);
        borderIs("the third part", x, 3, 1, 10);
        LetterTree ends = new LetterTree();
        for (int i = 0; i < 4; i++) {
            ends.put(Long.MIN_VALUE + i);
            ends.put(Long.MAX_VALUE - i);
        }
        leavesFrom("from end to end", ends, 1, 4, 3);
        borderIs("from end to end", ends, 0, 1, Long.MAX_VALUE - 2);
        CHECKS.due("the eighth is a letter", ends.letters(), 1);
        CHECKS.due("for the key just below the border", ends.met(Long.MAX_VALUE - 3), 1);
        ends.sink();
        leavesFrom("it sinks to the first", ends, 1, 5, 3);
    }

    /** "between two parts of an INNER PAGE the BORDER that lay there." */
    private static void bordersOfInnerPagesStay() {
        LetterTree x = Grown.fiveLeaves();
        x.drop(102);
        x.settle();
        Grown.puts(x, 11, 13);
        x.settle();
        borderIs("its key is there no more", x, 0, 1, 102);
        CHECKS.due("one border", x.border(0, 2), NONE);
        borderIs("the first part", x, 1, 1, 20);
        borderIs("the first part", x, 1, 2, 50);
        CHECKS.due("two borders", x.border(1, 3), NONE);
        borderIs("the second part", x, 5, 1, 202);
        borderIs("the second part", x, 5, 2, 302);
        CHECKS.due("two borders", x.border(5, 3), NONE);
        borderIs("its first leaf", x, 6, 1, 103);
    }

    /** "LETTERS go to the part in whose SPAN they are, in order." */
    private static void lettersGoToTheirPart() {
        LetterTree x = Grown.fiveLeaves();
        int before = x.number(0);
        x.drop(Long.MAX_VALUE);
        Grown.puts(x, 11, 13);
        x.drop(101);
        x.drop(102);
        x.drop(51);
        x.sweep(302, 303);
        CHECKS.due("three for the first", x.sink(), 3);
        inner(x, 0, 2, 0);
        inner(x, 1, 3, 2);
        CHECKS.due("just below the border", x.letter(1, 0, 1), before + 5);
        CHECKS.due("and the later one", x.letter(1, 1, 1), before + 7);
        inner(x, 5, 3, 3);
        CHECKS.due("the greatest key", x.letter(5, 0, 1), before + 1);
        CHECKS.due("just at the border", x.letter(5, 1, 1), before + 6);
        CHECKS.due("a SWEEP", x.letter(5, 2, 0), 5);
        CHECKS.due("met", x.met(102), 1);
        CHECKS.due("all are there", x.letters(), 5);
    }

    /** "its parts are KIDS of a new root with an empty ROOM." */
    private static void theNewRootIsEmpty() {
        LetterTree x = Grown.fiveLeaves();
        Grown.puts(x, 11, 13);
        x.drop(1000);
        x.sink();
        inner(x, 0, 2, 0);
        CHECKS.due("a level more", x.height(), 3);
        CHECKS.due("the letter lies below", x.letters(), 1);
        x.drop(1000);
        inner(x, 0, 2, 1);
    }

    /** "When a root is too big (behind a WRITE, a SINK ..)" */
    private static void theRootIsPartedBehindTheWrite() {
        LetterTree x = Grown.fiveLeaves();
        Grown.puts(x, 11, 13);
        x.drop(51);
        x.drop(52);
        x.drop(105);
        x.drop(205);
        x.drop(305);
        CHECKS.due("eight", x.letters(), 8);
        x.sweep(51, 305);
        // 3 for the first, 3 for the second, 2 each for three more: both SINK, then it is PARTED.
        CHECKS.due("six", x.letters(), 6);
        inner(x, 0, 2, 0);
        inner(x, 1, 3, 0);
        leavesFrom("both sank", x, 2, 4, 3, 1);
        inner(x, 5, 3, 6);
    }

    /** settle: "(one that is too big then is PARTED, and so on up)" */
    private static void settlePartsAndSoOnUp() {
        LetterTree x = Grown.threeLevels();
        int sinks = 0;
        for (long first = 400; first <= 1400; first += 100) {
            Grown.puts(x, first, first + 3);
            sinks += x.settle();
        }
        // Each four make the last LEAF 7, so 4 and 3: 17 LEAVES, below INNER PAGES of 3, the last of 5.
        CHECKS.due("two sinks each", sinks, 22);
        CHECKS.due("pages", x.pages(), 1 + 5 + 17);
        inner(x, 0, 5, 0);
        inner(x, 17, 5, 0);
        Grown.puts(x, 1500, 1503);
        x.drop(1);
        CHECKS.due("the root twice, the first of its kids, the last", x.settle(), 4);
        CHECKS.due("the leaf, its page and the root are PARTED", x.height(), 4);
        CHECKS.due("pages", x.pages(), 1 + 2 + 6 + 18);
        inner(x, 0, 2, 0);
        inner(x, 1, 3, 0);
        inner(x, 14, 3, 0);
        inner(x, 23, 3, 0);
        leavesFrom("the last ones", x, 24, 4, 4, 3);
        CHECKS.due("no letters", x.letters(), 0);
    }
}
