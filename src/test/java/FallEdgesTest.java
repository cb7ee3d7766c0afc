/** Section 3 of the terms and promises 31 to 33: a FALL at each writing, crash, rise. */
public final class FallEdgesTest {
    private static final Checks CHECKS = new Checks();
    private static final int NONE = LetterTree.NONE, BAD = LetterTree.BAD;
    private static final int DOWN = LetterTree.DOWN, FELL = LetterTree.FELL;

    public static void main(String[] args) {
        fallTakes0To10000();
        badLeavesTheFallThatIsDue();
        aFallAtEachWriting();
        aFallAtEachWritingOfAPicture();
        aTornPageLeavesBothHeads();
        aTornHeadIsNone();
        theFirstHeadOfAll();
        itCountsFromNowOn();
        itComesOnce();
        fall0TakesItBack();
        refusedWritingsDoNotCount();
        itStaysDueBehindCrash();
        crashIsDown();
        riseIsBadIfNotDown();
        riseTakesTheGreatestGeneration();
        riseWithoutAHead();
        risenGenerationsGoOn();
        CHECKS.end();
    }

    private static void writes(String when, LetterTree x, int... wants) {
        for (int what = 0; what < 4; what++) {
            CHECKS.due(when + ": writes(" + what + ")", x.writes(what), wants[what]);
        }
    }

    /** Two LEAVES and a root at the PLACES 0, 1, 2, all of which are CHANGED since: 4 writings. */
    private static LetterTree fourWritings() {
        LetterTree x = Grown.twoLeaves();
        x.sync();
        x.put(1);
        x.put(71);
        x.settle();
        return x;
    }

    /** fall: "n. BAD: n is not 0 .. 10000." */
    private static void fallTakes0To10000() {
        LetterTree x = new LetterTree();
        int[] good = {0, 1, 2, 9999, 10000};
        for (int n : good) {
            CHECKS.due("fall(" + n + ")", x.fall(n), n);
        }
        int[] bad = {Integer.MIN_VALUE, -2, -1, 10001, 10002, Integer.MAX_VALUE};
        for (int n : bad) {
            CHECKS.due("fall(" + n + ")", x.fall(n), BAD);
        }
        CHECKS.due("far off", x.sync(), 2);
        x.crash();
        for (int n : good) {
            CHECKS.due("DOWN: fall(" + n + ")", x.fall(n), n);
        }
        for (int n : bad) {
            CHECKS.due("DOWN: fall(" + n + ")", x.fall(n), BAD);
        }
    }

    private static void badLeavesTheFallThatIsDue() {
        LetterTree x = new LetterTree();
        x.fall(2);
        x.fall(-1);
        x.fall(10001);
        CHECKS.due("the leaf, then the head", x.sync(), FELL);
        writes("at the head", x, 1, 0, 1, 1);
    }

    /** "A FALL comes at the n-th of these writings (PAGES and HEADS)" */
    private static void aFallAtEachWriting() {
        for (int n = 1; n <= 4; n++) {
            LetterTree x = fourWritings();
            x.fall(n);
            CHECKS.due("sync", x.sync(), FELL);
            CHECKS.due("DOWN", x.count(), DOWN);
            fellAt(x, n);
        }
        LetterTree x = fourWritings();
        x.fall(5);
        CHECKS.due("four writings", x.sync(), 4);
        writes("not yet", x, 4, 2, 2, 0);
        CHECKS.due("the fifth", x.sync(), FELL);
        writes("a head", x, 4, 2, 3, 1);
        CHECKS.due("head 1 is none", x.disk(1, 0), 0);
        CHECKS.due("rise", x.rise(), 2);
        CHECKS.due("count", x.count(), 9);
    }

    /** "what is written by it is TORN: its PLACE is free, or that HEAD is none" */
    private static void fellAt(LetterTree x, int n) {
        writes("fall(" + n + ")", x, 2 + Math.min(2, n), n > 2 ? 2 : 1, n > 3 ? 2 : 1, 1);
        CHECKS.due("head 1", x.disk(1, 0), 1);
        CHECKS.due("head 0", x.disk(0, 0), 0);
        CHECKS.due("rise", x.rise(), 1);
        CHECKS.due("what was written is free", x.free(), 997);
        CHECKS.due("as the head says", x.count(), 7);
        CHECKS.due("number", x.number(0), 7);
        CHECKS.due("the root's place", x.page(0, 3), 2);
        x.put(1);
        x.settle();
        CHECKS.due("no other is due", x.sync(), 3);
        CHECKS.due("the least free place", x.page(1, 3), 3);
        CHECKS.due("and the next", x.page(0, 3), 4);
        CHECKS.due("head 0", x.disk(0, 0), 2);
    }

    private static void aFallAtEachWritingOfAPicture() {
        for (int n = 1; n <= 4; n++) {
            LetterTree x = fourWritings();
            x.fall(n);
            CHECKS.due("picture", x.picture(), FELL);
            CHECKS.due("DOWN", x.pictured(0), DOWN);
            CHECKS.due("rise", x.rise(), 1);
            CHECKS.due("it is not there", x.pictured(0), NONE);
            CHECKS.due("nor its places", x.free(), 997);
            CHECKS.due("its number is free", x.picture(), 1);
        }
        LetterTree x = fourWritings();
        x.fall(5);
        CHECKS.due("four writings", x.picture(), 1);
        CHECKS.due("the fifth", x.picture(), FELL);
        CHECKS.due("rise", x.rise(), 2);
        CHECKS.due("the first is there", x.pictured(0), 1);
        CHECKS.due("the second is not", x.pictured(1), NONE);
        CHECKS.due("the next number", x.picture(), 2);
    }

    private static LetterTree twoHeads() {
        LetterTree x = new LetterTree();
        x.put(1);
        x.sync();
        x.put(2);
        x.sync();
        x.put(3);
        return x;
    }

    private static void aTornPageLeavesBothHeads() {
        LetterTree x = twoHeads();
        x.fall(1);
        CHECKS.due("at the leaf", x.sync(), FELL);
        CHECKS.due("head 1", x.disk(1, 0), 1);
        CHECKS.due("head 0", x.disk(0, 0), 2);
        CHECKS.due("rise", x.rise(), 2);
        CHECKS.due("count", x.count(), 2);
        CHECKS.due("two trees", x.free(), 998);
    }

    private static void aTornHeadIsNone() {
        LetterTree x = twoHeads();
        x.fall(2);
        CHECKS.due("at head 1", x.sync(), FELL);
        for (int what = 0; what < 4; what++) {
            CHECKS.due("head 1 is none", x.disk(1, what), 0);
        }
        CHECKS.due("head 0", x.disk(0, 0), 2);
        CHECKS.due("rise", x.rise(), 2);
        CHECKS.due("count", x.count(), 2);
        CHECKS.due("one tree", x.free(), 999);
        x.sync();
        CHECKS.due("head 1 is written anew", x.disk(1, 0), 3);
    }

    private static void theFirstHeadOfAll() {
        LetterTree x = new LetterTree();
        x.put(1);
        x.fall(2);
        CHECKS.due("sync", x.sync(), FELL);
        CHECKS.due("no head", x.rise(), 0);
        CHECKS.due("empty", x.count(), 0);
        CHECKS.due("free", x.free(), 1000);
        CHECKS.due("number", x.number(0), 0);
        CHECKS.due("generation", x.number(1), 0);
        CHECKS.due("sync", x.sync(), 2);
        CHECKS.due("place", x.page(0, 3), 0);
        writes("in all", x, 2, 0, 2, 1);
    }

    /** fall: "A FALL comes at the n-th writing from now on" */
    private static void itCountsFromNowOn() {
        LetterTree x = fourWritings();
        x.fall(6);
        x.sync();
        CHECKS.due("two are left, but it is set anew", x.fall(3), 3);
        CHECKS.due("first", x.sync(), 1);
        CHECKS.due("second", x.sync(), 1);
        CHECKS.due("third", x.sync(), FELL);
    }

    /** "once" */
    private static void itComesOnce() {
        LetterTree x = new LetterTree();
        x.fall(1);
        CHECKS.due("at the leaf", x.sync(), FELL);
        x.rise();
        for (int i = 0; i < 30; i++) {
            CHECKS.due("no other", x.sync(), i == 0 ? 2 : 1);
        }
        writes("one was TORN", x, 2, 0, 30, 1);
        x.fall(1);
        CHECKS.due("but by another", x.sync(), FELL);
        writes("two were TORN", x, 2, 0, 31, 2);
    }

    /** fall: "0: none does" */
    private static void fall0TakesItBack() {
        LetterTree x = new LetterTree();
        x.fall(1);
        x.fall(0);
        CHECKS.due("none", x.sync(), 2);
        x.fall(2);
        x.sync();
        x.fall(0);
        CHECKS.due("none", x.sync(), 1);
        CHECKS.due("none", x.picture(), 1);
        x.crash();
        x.fall(1);
        x.fall(0);
        x.rise();
        CHECKS.due("none", x.sync(), 1);
    }

    private static void refusedWritingsDoNotCount() {
        LetterTree x = new LetterTree();
        for (int i = 0; i < 12; i++) {
            x.picture();
        }
        x.fall(1);
        CHECKS.due("12 pictures", x.picture(), LetterTree.FULL);
        x.crash();
        CHECKS.due("DOWN", x.sync(), DOWN);
        CHECKS.due("DOWN", x.picture(), DOWN);
        CHECKS.due("rise writes nothing", x.rise(), 12);
        CHECKS.due("12 pictures", x.picture(), LetterTree.FULL);
        writes("none was TORN", x, 1, 0, 12, 0);
        CHECKS.due("the first writing", x.sync(), FELL);
    }

    /** "(Not if the store FELL by crash() ahead of it: it stays due.)" */
    private static void itStaysDueBehindCrash() {
        LetterTree x = fourWritings();
        x.fall(7);
        CHECKS.due("four", x.sync(), 4);
        x.crash();
        writes("crash writes nothing", x, 4, 2, 2, 0);
        x.rise();
        CHECKS.due("the fifth", x.sync(), 1);
        x.crash();
        x.rise();
        CHECKS.due("the sixth", x.sync(), 1);
        x.crash();
        x.rise();
        CHECKS.due("the seventh", x.sync(), FELL);
        CHECKS.due("rise", x.rise(), 4);
    }

    /** crash: "All is gone but THE DISK; the store is DOWN: 0." */
    private static void crashIsDown() {
        LetterTree x = fourWritings();
        CHECKS.due("crash", x.crash(), 0);
        CHECKS.due("again", x.crash(), DOWN);
        CHECKS.due("head 1", x.disk(1, 3), 3);
        CHECKS.due("rise", x.rise(), 1);
        CHECKS.due("what was not written is gone", x.count(), 7);
        CHECKS.due("crash", x.crash(), 0);
        x.rise();
        CHECKS.due("nothing is CHANGED", x.sync(), 1);
        x.fall(1);
        x.sync();
        CHECKS.due("DOWN by a FALL", x.crash(), DOWN);
        LetterTree y = new LetterTree();
        CHECKS.due("a new object", y.crash(), 0);
        CHECKS.due("no head", y.rise(), 0);
    }

    /** rise: "BAD: it is not DOWN." */
    private static void riseIsBadIfNotDown() {
        LetterTree x = new LetterTree();
        CHECKS.due("a new object", x.rise(), BAD);
        x.put(1);
        x.sync();
        x.put(2);
        CHECKS.due("with a head", x.rise(), BAD);
        CHECKS.due("nothing is lost", x.count(), 2);
        x.crash();
        CHECKS.due("DOWN", x.rise(), 1);
        CHECKS.due("not DOWN", x.rise(), BAD);
        CHECKS.due("count", x.count(), 1);
    }

    /** "of the HEADS that are one the one of greatest GENERATION" */
    private static void riseTakesTheGreatestGeneration() {
        LetterTree x = new LetterTree();
        for (int g = 1; g <= 5; g++) {
            x.put(g);
            x.sync();
            x.crash();
            CHECKS.due("the latest", x.rise(), g);
            CHECKS.due("its count", x.count(), g);
        }
        x.crash();
        x.bend(1);
        CHECKS.due("the other one", x.rise(), 4);
        CHECKS.due("its count", x.count(), 4);
        CHECKS.due("its NUMBER", x.number(0), 4);
        x.crash();
        CHECKS.due("the only one", x.rise(), 4);
    }

    /** "without one all is as at first." */
    private static void riseWithoutAHead() {
        LetterTree x = fourWritings();
        x.picture();
        x.crash();
        x.bend(0);
        x.bend(1);
        CHECKS.due("rise", x.rise(), 0);
        CHECKS.due("count", x.count(), 0);
        CHECKS.due("pages", x.pages(), 1);
        CHECKS.due("no entry", x.page(0, 1), 0);
        CHECKS.due("CHANGED", x.page(0, 3), NONE);
        CHECKS.due("number", x.number(0), 0);
        CHECKS.due("generation", x.number(1), 0);
        CHECKS.due("no picture", x.pictured(0), NONE);
        CHECKS.due("free", x.free(), 1000);
        CHECKS.due("the first number", x.put(1), 0);
        CHECKS.due("one WRITE", x.number(0), 1);
        CHECKS.due("the first picture", x.picture(), 1);
        CHECKS.due("head 1", x.disk(1, 0), 1);
    }

    /** "GENERATION g, which is 1 more than the latest one": THE HEADS say it behind a rise. */
    private static void risenGenerationsGoOn() {
        LetterTree x = new LetterTree();
        for (int g = 1; g <= 5; g++) {
            x.put(g);
            x.sync();
        }
        x.crash();
        x.bend(1);
        x.rise();
        x.put(9);
        CHECKS.due("sync", x.sync(), 2);
        CHECKS.due("generation 5 again", x.disk(1, 0), 5);
        CHECKS.due("its NUMBER", x.disk(1, 1), 5);
        CHECKS.due("head 0 stays", x.disk(0, 0), 4);
        x.bend(0);
        x.bend(1);
        x.sync();
        CHECKS.due("without heads it goes on as well", x.disk(0, 0), 6);
    }
}
