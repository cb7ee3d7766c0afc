import java.util.ArrayList;
import java.util.List;

/** Section 2 of the terms and promises 16 to 24, sentence by sentence, at their edges. */
public final class TreeEdgesTest {
    private static final Checks CHECKS = new Checks();
    private static final int NONE = LetterTree.NONE;
    private static final long LEAST = Long.MIN_VALUE, MOST = Long.MAX_VALUE;
    private static final int[] FAR = {Integer.MIN_VALUE, -2, -1, 1000, Integer.MAX_VALUE};
    // KEYS that fill all LEAVES evenly, so that many of them become too big at once.
    private static final int[] TALL = {
        0, 45, 58, 63, 14, 55, 39, 72, 8, 71, 34, 67, 22, 60, 26, 75, 4, 49, 29, 65, 18, 56, 41, 74,
        12, 59, 36, 69, 16, 61, 44, 77, 2, 48, 28, 64, 15, 11, 53, 35, 68, 24, 43, 42, 76, 7, 51, 31,
        66, 20, 57, 38, 32, 25, 62, 46, 52, 1, 47, 27, 21, 10, 5, 23, 6, 50, 30, 19, 13, 54, 37, 70,
        33, 3, 9, 17, 40, 73,
    };

    public static void main(String[] args) {
        atFirstOneLeaf();
        spansBeginAtTheirBorder();
        sweepsComeInParts();
        aRoomHas8Letters();
        aRoomBelowTheRootHas8Letters();
        itSinksAsLongAsTheRoomHasMoreThan8();
        aSinkTakesMost();
        ofSeveralTheFirstOne();
        lettersSinkInTheirOrder();
        sinkWithoutLetters();
        settleCountsItsSinks();
        settleTakesTheFirstByNumber();
        settleTakesPartsByNumber();
        pagesAreNumbered();
        pagesOnAWay();
        pageTells();
        borderFinds();
        letterTells();
        lettersAreCounted();
        metCountsForAKey();
        CHECKS.end();
    }

    private static void page(LetterTree x, int i, int kind, int size, int letters) {
        CHECKS.due("page(" + i + ", 0)", x.page(i, 0), kind);
        CHECKS.due("page(" + i + ", 1)", x.page(i, 1), size);
        CHECKS.due("page(" + i + ", 2)", x.page(i, 2), letters);
    }

    /** The LETTERS of PAGE i have these NUMBERS, in this order. */
    private static void numbers(LetterTree x, int i, int... numbers) {
        for (int k = 0; k < numbers.length; k++) {
            CHECKS.due("number of letter " + k + " of page " + i, x.letter(i, k, 1), numbers[k]);
        }
        CHECKS.due("no more letters", x.letter(i, numbers.length, 1), NONE);
    }

    /** DROPS of KEYS that are not there change no LEAF when they sink. */
    private static void drops(LetterTree x, long... keys) {
        for (long key : keys) {
            CHECKS.due("drop(" + key + ")", x.drop(key), 0);
        }
    }

    /** "At first THE TREE is one LEAF without ENTRIES." */
    private static void atFirstOneLeaf() {
        LetterTree x = new LetterTree();
        CHECKS.due("pages", x.pages(), 1);
        page(x, 0, 0, 0, 0);
        CHECKS.due("no entry", x.border(0, 1), NONE);
        x.put(1);
        page(x, 0, 0, 1, 0);
        CHECKS.due("one entry", x.border(0, 1), 1);
    }

    /** "the SPAN of k0 is what of its own is below b1, of k1 what is from b1 on and below b2" */
    private static void spansBeginAtTheirBorder() {
        long[][] rows = {{LEAST, 1}, {49, 1}, {51, 2}, {100, 2}, {105, 3}, {MOST, 3}};
        int[] sizes = {0, 4, 4, 3};
        for (long[] row : rows) {
            LetterTree x = Grown.threeLeaves();
            x.put(row[0]);
            x.sink();
            for (int i = 1; i <= 3; i++) {
                page(x, i, 0, sizes[i] + (row[1] == i ? 1 : 0), 0);
            }
        }
        long[][] borders = {{50, 2}, {102, 3}, {101, 2}, {40, 1}};
        for (long[] border : borders) {
            LetterTree x = Grown.threeLeaves();
            int i = (int) border[1];
            x.drop(border[0]);
            x.sink();
            page(x, i, 0, sizes[i] - 1, 0);
            x.put(border[0]);
            x.sink();
            page(x, i, 0, sizes[i], 0);
            CHECKS.due("as many pages", x.pages(), 4);
        }
    }

    /** "a SWEEP in parts, one FOR each KID whose SPAN has some KEY of it, cut at that SPAN" */
    private static void sweepsComeInParts() {
        long[][] sweeps = {
            // a, b, parts
            {LEAST, LEAST, 1}, {LEAST, 49, 1}, {LEAST, 50, 2}, {LEAST, 101, 2}, {LEAST, 102, 3},
            {49, 49, 1}, {49, 50, 2}, {49, 101, 2}, {49, 102, 3}, {49, MOST, 3},
            {50, 50, 1}, {50, 101, 1}, {50, 102, 2}, {51, MOST, 2}, {101, 101, 1},
            {101, 102, 2}, {102, 102, 1}, {102, MOST, 1}, {MOST, MOST, 1}, {LEAST, MOST, 3},
        };
        for (long[] sweep : sweeps) {
            LetterTree x = Grown.threeLeaves();
            x.sweep(sweep[0], sweep[1]);
            sweepIsThere(x, sweep[0], sweep[1], (int) sweep[2]);
            int count = x.count();
            CHECKS.due("one SINK for each part", x.settle(), sweep[2]);
            CHECKS.due("as many keys", x.count(), count);
            CHECKS.due("as many entries", x.page(1, 1) + x.page(2, 1) + x.page(3, 1), count);
        }
    }

    private static void sweepIsThere(LetterTree x, long a, long b, int parts) {
        String name = "sweep(" + a + ", " + b + ")";
        CHECKS.due(name + " parts", x.letters(), parts);
        for (int k = 0; k < parts; k++) {
            CHECKS.due(name + " a SWEEP", x.letter(0, k, 0), 5);
            CHECKS.due(name + " its number", x.letter(0, k, 1), x.number(0));
        }
        long[] keys = {LEAST, 48, 49, 50, 51, 100, 101, 102, 103, MOST, a, b};
        for (long key : keys) {
            CHECKS.due(name + " met " + key, x.met(key), a <= key && key <= b ? 1 : 0);
        }
        CHECKS.due(name + " met below", a > LEAST ? x.met(a - 1) : 0, 0);
        CHECKS.due(name + " met above", b < MOST ? x.met(b + 1) : 0, 0);
    }

    /** "as long as its ROOM has more than 8 LETTERS, it SINKS." */
    private static void aRoomHas8Letters() {
        LetterTree x = Grown.twoLeaves();
        for (int n = 1; n <= 8; n++) {
            drops(x, n);
            page(x, 0, 1, 2, n);
        }
        drops(x, 99);
        numbers(x, 0, 16);
        drops(x, 1, 2, 3, 4, 5, 6, 7);
        page(x, 0, 1, 2, 8);
        drops(x, 98);
        numbers(x, 0, 16, 24);
    }

    private static void aRoomBelowTheRootHas8Letters() {
        LetterTree x = Grown.threeLevels();
        drops(x, 1, 2, 3, 21, 22, 51, 52, 53);
        CHECKS.due("8 sink", x.sink(), 8);
        page(x, 0, 1, 2, 0);
        page(x, 1, 1, 3, 8);
        drops(x, 54);
        CHECKS.due("the ninth", x.sink(), 1);
        int first = x.number(0) - 8;
        // Four of nine are for the third LEAF.
        numbers(x, 1, first, first + 1, first + 2, first + 3, first + 4);
        page(x, 5, 1, 3, 0);
    }

    private static void itSinksAsLongAsTheRoomHasMoreThan8() {
        int[][] rows = {
            // the last KEY of a SWEEP from 1 on, its parts, LETTERS that are left
            {1, 1, 6}, {50, 2, 7}, {102, 3, 8}, {202, 4, 9 - 3}, {302, 5, 10 - 3},
        };
        for (int[] row : rows) {
            LetterTree x = Grown.fiveLeaves();
            drops(x, 1, 2, 51, 52, 105, 106, 205, 305);
            x.sweep(1, row[0]);
            CHECKS.due("a sweep in " + row[1] + " parts leaves", x.letters(), row[2]);
            int sinks = row[1] > 3 ? 2 : 1;
            CHECKS.due("the first sank", x.page(1, 1), row[0] == 1 ? 4 : 0);
            CHECKS.due("the second, if need be", x.page(2, 1), sinks == 2 ? 0 : 4);
            CHECKS.due("not the third", x.page(3, 1), 4);
        }
    }

    /** "of its KIDS that FOR which most LETTERS are .. is GIVEN all LETTERS FOR it" */
    private static void aSinkTakesMost() {
        LetterTree x = Grown.threeLeaves();
        drops(x, 103 + 5, 1, 51, 109, 52, 110);
        int first = x.number(0) - 5;
        CHECKS.due("three for the third", x.sink(), 3);
        numbers(x, 0, first + 1, first + 2, first + 4);
        CHECKS.due("two for the second", x.sink(), 2);
        numbers(x, 0, first + 1);
        CHECKS.due("one for the first", x.sink(), 1);
        numbers(x, 0);
        CHECKS.due("none", x.sink(), 0);
    }

    /** "(of several the first one)" */
    private static void ofSeveralTheFirstOne() {
        LetterTree x = Grown.threeLeaves();
        drops(x, 108, 109, 51, 52, 1);
        int first = x.number(0) - 4;
        CHECKS.due("two for the second", x.sink(), 2);
        numbers(x, 0, first, first + 1, first + 4);
        drops(x, 2);
        CHECKS.due("two for the first", x.sink(), 2);
        numbers(x, 0, first, first + 1);
        drops(x, 51, 1);
        CHECKS.due("two for the third", x.sink(), 2);
        CHECKS.due("one for the first", x.sink(), 1);
        CHECKS.due("one for the second", x.sink(), 1);
    }

    /** "in the order in which they lie" */
    private static void lettersSinkInTheirOrder() {
        LetterTree x = Grown.threeLevels();
        x.put(1);
        x.drop(1);
        x.drop(2);
        x.put(2);
        x.feed(1, 1);
        x.put(3);
        x.feed(2, 1);
        x.append(3);
        x.feed(0x010203, 3);
        CHECKS.due("swap", x.swap(3, 2), 1);
        CHECKS.due("to the inner page", x.sink(), 7);
        int first = x.number(0) - 6;
        numbers(x, 1, first, first + 1, first + 2, first + 3, first + 4, first + 5, first + 6);
        x.sweep(4, 12);
        x.put(11);
        CHECKS.due("behind those there", x.sink(), 2);
        page(x, 1, 1, 3, 0);
        page(x, 2, 0, 4, 0);
        long[] keys = {2, 3, 11, 13};
        for (int k = 1; k <= 4; k++) {
            x.border(2, k);
            CHECKS.due("entry " + k, x.found(), keys[k - 1]);
        }
        CHECKS.due("the row", x.get(3), 1);
        CHECKS.due("its byte", x.byteAt(0), 3);
    }

    /** sink: "0: it is a LEAF, or has none." */
    private static void sinkWithoutLetters() {
        LetterTree leaf = Grown.leaf(6);
        leaf.sync();
        CHECKS.due("a leaf", leaf.sink(), 0);
        CHECKS.due("it is not CHANGED", leaf.page(0, 3), 0);
        LetterTree inner = Grown.threeLevels();
        inner.put(1);
        inner.sink();
        inner.sync();
        int place = inner.page(0, 3);
        CHECKS.due("the root has none, but a kid", inner.letters(), 1);
        CHECKS.due("none", inner.sink(), 0);
        CHECKS.due("nothing sank", inner.letters(), 1);
        CHECKS.due("it is not CHANGED", inner.page(0, 3), place);
        inner.put(1);
        CHECKS.due("one", inner.sink(), 1);
    }

    /** settle: "As long as some PAGE has LETTERS .. how many did." */
    private static void settleCountsItsSinks() {
        LetterTree leaf = Grown.leaf(6);
        leaf.sync();
        CHECKS.due("a leaf", leaf.settle(), 0);
        CHECKS.due("it is not CHANGED", leaf.page(0, 3), 0);
        LetterTree x = Grown.threeLevels();
        x.sync();
        int place = x.page(0, 3);
        CHECKS.due("no letters", x.settle(), 0);
        CHECKS.due("it is not CHANGED", x.page(0, 3), place);
        drops(x, 1);
        CHECKS.due("the root and an inner page", x.settle(), 2);
        drops(x, 1, 21, 51, 105, 205, 305);
        CHECKS.due("two of the root, three of each", x.settle(), 2 + 3 + 3);
        drops(x, 1);
        x.sink();
        CHECKS.due("of an inner page alone", x.settle(), 1);
        CHECKS.due("no letters", x.letters(), 0);
        CHECKS.due("again", x.settle(), 0);
    }

    /** "the first one, by number, SINKS" (so a ROOM of 8 sinks ahead of the ninth, or behind it) */
    private static void settleTakesTheFirstByNumber() {
        LetterTree x = Grown.threeLevels();
        drops(x, 1, 2, 21, 22, 51, 52, 53, 54);
        x.sink();
        page(x, 1, 1, 3, 8);
        drops(x, 105, 3);
        // The root twice; the inner page has 9 then and SINKS by itself once, then twice more.
        CHECKS.due("settle", x.settle(), 2 + 2 + 1);
    }

    /** The ENTRIES of each LEAF; around them, in brackets, each INNER PAGE, and +n LETTERS. */
    private static String shape(LetterTree x, int[] i) {
        int page = i[0];
        i[0]++;
        if (x.page(page, 0) == 0) {
            return String.valueOf(x.page(page, 1));
        }
        List<String> kids = new ArrayList<>();
        for (int k = 0; k < x.page(page, 1); k++) {
            kids.add(shape(x, i));
        }
        int letters = x.page(page, 2);
        return "(" + String.join(" ", kids) + ")" + (letters > 0 ? "+" + letters : "");
    }

    /**
     * "the first one, by number, SINKS (one that is too big then is PARTED, and so on up)": of the
     * parts of the first KID, which have LETTERS still, the first one goes on. If the second one
     * did, it would be PARTED ahead of the first one, and the root of 6 KIDS then into 4 and 3.
     */
    private static void settleTakesPartsByNumber() {
        LetterTree x = new LetterTree();
        for (int key : TALL) {
            x.put(key);
        }
        String before = shape(x, new int[1]);
        CHECKS.holds("as grown: " + before,
                before.equals("((6 5 6 5 5)+5 (5 5 4)+7 (4 3 5 4)+4)+5"));
        CHECKS.due("settle", x.settle(), 12);
        String after = shape(x, new int[1]);
        CHECKS.holds("settled: " + after, after.equals(
                "(((4 3 4) (3 4 3) (5 4 4)) ((4 3 4) (3 4 3) (5 4 3) (4 3 4)))"));
    }

    /** "PAGES are numbered from 0 on: a PAGE, then all of its first KID's, and so on." */
    private static void pagesAreNumbered() {
        LetterTree x = Grown.threeLevels();
        int[][] pages = {{1, 2}, {1, 3}, {0, 4}, {0, 3}, {0, 4}, {1, 3}, {0, 4}, {0, 4}, {0, 3}};
        long[] firsts = {102, 20, 10, 20, 50, 202, 102, 202, 302};
        CHECKS.due("pages", x.pages(), 9);
        for (int i = 0; i < pages.length; i++) {
            page(x, i, pages[i][0], pages[i][1], 0);
            CHECKS.due("border", x.border(i, 1), 1);
            CHECKS.due("its first key", x.found(), firsts[i]);
        }
        CHECKS.due("no more", x.page(9, 0), NONE);
    }

    /** height: "How many PAGES are ON A WAY." */
    private static void pagesOnAWay() {
        CHECKS.due("a leaf of 0", new LetterTree().height(), 1);
        CHECKS.due("a leaf of 6", Grown.leaf(6).height(), 1);
        CHECKS.due("two leaves", Grown.leaf(7).height(), 2);
        CHECKS.due("five leaves", Grown.fiveLeaves().height(), 2);
        LetterTree x = Grown.threeLevels();
        CHECKS.due("six leaves", x.height(), 3);
        x.sweep(LEAST, MOST);
        x.settle();
        CHECKS.due("empty leaves stay", x.height(), 3);
        CHECKS.due("empty pages stay", x.pages(), 9);
    }

    /** page: "Of PAGE i: what 0 .. 3. NONE (another what, too)." */
    private static void pageTells() {
        LetterTree leaf = new LetterTree();
        CHECKS.due("page 0", leaf.page(0, 0), 0);
        CHECKS.due("no page 1", leaf.page(1, 0), NONE);
        LetterTree x = Grown.twoLeaves();
        x.drop(1);
        x.sync();
        int[] root = {1, 2, 1, 2};
        int[] last = {0, 3, 0, 1};
        for (int what = 0; what < 4; what++) {
            CHECKS.due("of the root", x.page(0, what), root[what]);
            CHECKS.due("of the last", x.page(2, what), last[what]);
            CHECKS.due("behind the last", x.page(3, what), NONE);
            for (int i : FAR) {
                CHECKS.due("page(" + i + ", " + what + ")", x.page(i, what), NONE);
                CHECKS.due("page(0, " + i + ")", x.page(0, i), NONE);
                CHECKS.due("page(2, " + i + ")", x.page(2, i), NONE);
            }
        }
        CHECKS.due("no what 4", x.page(0, 4), NONE);
        x.put(1);
        CHECKS.due("CHANGED", x.page(0, 3), NONE);
    }

    /** border: "BORDER k of PAGE i, from 1 on (of a LEAF the KEY of ENTRY k, from 1 on)" */
    private static void borderFinds() {
        LetterTree x = Grown.threeLeaves();
        long[][] found = {{0, 1, 50}, {0, 2, 102}, {1, 1, 10}, {1, 4, 40}, {2, 4, 101}, {3, 3, 104}};
        for (long[] row : found) {
            CHECKS.due("border", x.border((int) row[0], (int) row[1]), 1);
            CHECKS.due("found", x.found(), row[2]);
        }
        int[][] none = {{0, 0}, {0, 3}, {1, 0}, {1, 5}, {3, 0}, {3, 4}, {4, 1}, {-1, 1}};
        for (int[] row : none) {
            CHECKS.due("border(" + row[0] + ", " + row[1] + ")", x.border(row[0], row[1]), NONE);
        }
        for (int far : FAR) {
            CHECKS.due("border(0, " + far + ")", x.border(0, far), NONE);
            CHECKS.due("border(1, " + far + ")", x.border(1, far), NONE);
            CHECKS.due("border(" + far + ", 1)", x.border(far, 1), NONE);
        }
        CHECKS.due("found stays", x.found(), 104);
        x.sweep(LEAST, MOST);
        x.settle();
        CHECKS.due("borders stay", x.border(0, 2), 1);
        CHECKS.due("entries go", x.border(3, 1), NONE);
    }

    /** letter: "Of LETTER k, from 0 on, in the ROOM of PAGE i .. NONE: there is none such." */
    private static void letterTells() {
        LetterTree x = Grown.twoLeaves();
        x.put(1);
        x.append(1);
        x.swap(1, 0);
        x.drop(1);
        x.sweep(1, 1);
        for (int k = 0; k < 5; k++) {
            CHECKS.due("kind of " + k, x.letter(0, k, 0), k + 1);
            CHECKS.due("number of " + k, x.letter(0, k, 1), k + 8);
            CHECKS.due("what 2", x.letter(0, k, 2), NONE);
            CHECKS.due("what -1", x.letter(0, k, -1), NONE);
            CHECKS.due("of a leaf", x.letter(1, k, 0), NONE);
        }
        CHECKS.due("one behind", x.letter(0, 5, 0), NONE);
        CHECKS.due("one ahead", x.letter(0, -1, 0), NONE);
        CHECKS.due("behind the last page", x.letter(3, 0, 0), NONE);
        for (int far : FAR) {
            CHECKS.due("letter(0, " + far + ", 0)", x.letter(0, far, 0), NONE);
            CHECKS.due("letter(" + far + ", 0, 0)", x.letter(far, 0, 0), NONE);
            CHECKS.due("letter(0, 0, " + far + ")", x.letter(0, 0, far), NONE);
        }
    }

    /** letters: "How many LETTERS all ROOMS have." */
    private static void lettersAreCounted() {
        LetterTree leaf = Grown.leaf(6);
        CHECKS.due("a leaf has none", leaf.letters(), 0);
        LetterTree x = Grown.threeLevels();
        drops(x, 1, 2, 3);
        x.sink();
        drops(x, 105, 106);
        x.sink();
        drops(x, 1);
        page(x, 0, 1, 2, 1);
        page(x, 1, 1, 3, 3);
        page(x, 5, 1, 3, 2);
        CHECKS.due("of the root and both kids", x.letters(), 6);
    }

    /** met: "How many LETTERS the PAGES ON THE WAY to a KEY have for it (SWEEPS, too ..)." */
    private static void metCountsForAKey() {
        LetterTree x = Grown.threeLevels();
        x.put(1);
        x.drop(1);
        x.sweep(0, 2);
        CHECKS.due("to a kid", x.sink(), 3);
        x.append(1);
        x.sweep(LEAST, MOST);
        long[][] rows = {
            {LEAST, 1}, {-1, 1}, {0, 2}, {1, 5}, {2, 2}, {3, 1}, {101, 1}, {102, 1}, {MOST, 1},
        };
        for (long[] row : rows) {
            CHECKS.due("met(" + row[0] + ")", x.met(row[0]), row[1]);
        }
        CHECKS.due("of a leaf", Grown.leaf(6).met(10), 0);
        x.settle();
        CHECKS.due("no more", x.met(1), 0);
    }
}
