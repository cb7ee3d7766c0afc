/** Section 3 of the terms and promises 25 to 30 and 34 to 37, sentence by sentence, at their edges. */
public final class DiskEdgesTest {
    private static final Checks CHECKS = new Checks();
    private static final int NONE = LetterTree.NONE, BAD = LetterTree.BAD, FULL = LetterTree.FULL;
    private static final long LEAST = Long.MIN_VALUE, MOST = Long.MAX_VALUE;
    private static final int[] FAR = {Integer.MIN_VALUE, -2, -1, 1000, Integer.MAX_VALUE};

    public static void main(String[] args) {
        headsTakeTurns();
        aPlaceIsTakenByTheTree();
        aPlaceIsTakenByAHead();
        aPlaceIsTakenByAPicture();
        aPlaceIsTakenByAPictureOfAHead();
        kidsAreWrittenFirst();
        theLeastFreePlace();
        syncCountsWritings();
        picturesAreNumbered();
        thereAre12Pictures();
        theGreatestNumberSoFar();
        lookLoadsTheRow();
        lookActsTheLettersOfThePicture();
        lookIsBadWithoutThePicture();
        releaseTellsHowMany();
        picturedIsRising();
        diskTells();
        diskOfNoHead();
        bendTells();
        writesTell();
        numberTells();
        CHECKS.end();
    }

    private static LetterTree leafWith(long key) {
        LetterTree x = new LetterTree();
        x.put(key);
        return x;
    }

    private static void free(String when, LetterTree x, int want) {
        CHECKS.due(when + ": free", x.free(), want);
    }

    /** "HEAD g modulo 2 is written with GENERATION g, which is 1 more than the latest one (0 ..)" */
    private static void headsTakeTurns() {
        LetterTree x = new LetterTree();
        CHECKS.due("generation", x.number(1), 0);
        for (int g = 1; g <= 6; g++) {
            CHECKS.due("sync", x.sync(), g == 1 ? 2 : 1);
            CHECKS.due("generation", x.number(1), g);
            CHECKS.due("the head that is written", x.disk(g % 2, 0), g);
            CHECKS.due("the other one", x.disk(1 - g % 2, 0), g - 1);
        }
        x.bend(0);
        CHECKS.due("bent", x.disk(0, 0), 0);
        x.sync();
        CHECKS.due("the generation goes on", x.number(1), 7);
        CHECKS.due("head 1", x.disk(1, 0), 7);
        CHECKS.due("head 0 is none still", x.disk(0, 0), 0);
    }

    /** "A PLACE is TAKEN if a PAGE of THE TREE that is not CHANGED lies there" */
    private static void aPlaceIsTakenByTheTree() {
        LetterTree x = leafWith(1);
        free("CHANGED", x, 1000);
        x.sync();
        x.bend(1);
        free("not CHANGED", x, 999);
        x.put(1);
        free("CHANGED again", x, 1000);
        x.sync();
        CHECKS.due("written over", x.page(0, 3), 0);
        LetterTree two = Grown.twoLeaves();
        two.sync();
        two.bend(1);
        free("two leaves and a root", two, 997);
        two.drop(1);
        free("the root is CHANGED", two, 998);
        two.put(1);
        two.settle();
        free("and a leaf", two, 999);
        two.put(60);
        two.settle();
        free("and the other", two, 1000);
    }

    /** "or one of the TREE of a HEAD" */
    private static void aPlaceIsTakenByAHead() {
        LetterTree x = leafWith(1);
        x.sync();
        x.put(1);
        free("head 1 has it", x, 999);
        x.sync();
        x.put(1);
        free("both heads have one", x, 998);
        x.bend(0);
        free("head 1 has one", x, 999);
        x.sync();
        CHECKS.due("the least that is free", x.page(0, 3), 1);
        x.put(1);
        free("head 1 has place 1, not 0", x, 999);
        x.bend(1);
        free("none has one", x, 1000);
    }

    /** "or of a PICTURE that there is" */
    private static void aPlaceIsTakenByAPicture() {
        LetterTree x = leafWith(1);
        x.picture();
        x.put(2);
        x.bend(0);
        x.bend(1);
        free("a picture has it", x, 999);
        x.sync();
        CHECKS.due("not written over", x.page(0, 3), 1);
        x.bend(0);
        x.put(3);
        free("the picture alone", x, 999);
        CHECKS.due("as it was", x.look(1, 2), NONE);
        x.release(1);
        free("released", x, 1000);
    }

    /** "of a PICTURE of a HEAD" */
    private static void aPlaceIsTakenByAPictureOfAHead() {
        LetterTree x = leafWith(1);
        x.picture();
        x.put(2);
        x.sync();
        x.put(3);
        x.release(1);
        x.bend(1);
        free("head 0: its tree and its picture", x, 998);
        x.bend(0);
        free("no head", x, 1000);
        LetterTree y = leafWith(1);
        y.picture();
        y.put(2);
        y.sync();
        y.release(1);
        y.put(3);
        y.sync();
        free("head 0 has the picture still", y, 997);
        y.put(4);
        y.sync();
        free("no head has it", y, 998);
        CHECKS.due("its place is the least", y.page(0, 3), 3);
        y.put(5);
        y.sync();
        CHECKS.due("and written over then", y.page(0, 3), 0);
    }

    private static void places(LetterTree x, int... places) {
        for (int i = 0; i < places.length; i++) {
            CHECKS.due("place of page " + i, x.page(i, 3), places[i]);
        }
    }

    /** "each CHANGED PAGE, KIDS ahead of their PAGE, from the first KID on" */
    private static void kidsAreWrittenFirst() {
        LetterTree x = Grown.threeLevels();
        CHECKS.due("sync", x.sync(), 10);
        places(x, 8, 3, 0, 1, 2, 7, 4, 5, 6);
        x.put(14);
        x.put(305);
        x.settle();
        CHECKS.due("two leaves, three inner pages, a head", x.sync(), 6);
        places(x, 13, 10, 9, 1, 2, 12, 4, 5, 11);
    }

    /** "is written to the least free PLACE" */
    private static void theLeastFreePlace() {
        LetterTree x = Grown.threeLeaves();
        x.sync();
        places(x, 3, 0, 1, 2);
        x.put(1);
        x.settle();
        x.sync();
        places(x, 5, 4, 1, 2);
        x.put(1);
        x.settle();
        x.sync();
        places(x, 7, 6, 1, 2);
        free("0 and 3 are free", x, 994);
        x.put(1);
        x.put(105);
        x.settle();
        CHECKS.due("sync", x.sync(), 4);
        places(x, 8, 0, 1, 3);
    }

    /** sync: "how many writings, with the HEAD." */
    private static void syncCountsWritings() {
        LetterTree x = new LetterTree();
        CHECKS.due("a leaf without entries", x.sync(), 2);
        CHECKS.due("nothing is CHANGED", x.sync(), 1);
        CHECKS.due("again", x.sync(), 1);
        CHECKS.due("as many heads", x.writes(2), 3);
        LetterTree y = Grown.fiveLeaves();
        CHECKS.due("five leaves and a root", y.sync(), 7);
        y.drop(1);
        CHECKS.due("the root", y.sync(), 2);
    }

    /** "A PICTURE has a number (1 more than the greatest so far)" */
    private static void picturesAreNumbered() {
        LetterTree x = leafWith(1);
        CHECKS.due("the first", x.picture(), 1);
        CHECKS.due("the second, of the same", x.picture(), 2);
        CHECKS.due("each is a head", x.writes(2), 2);
        CHECKS.due("one leaf", x.writes(0), 1);
        x.release(2);
        CHECKS.due("the greatest so far was 2", x.picture(), 3);
        x.release(1);
        x.release(3);
        CHECKS.due("none is there", x.pictured(0), NONE);
        CHECKS.due("the fourth", x.picture(), 4);
        CHECKS.due("generation", x.number(1), 4);
    }

    /** picture: "FULL: also 12 PICTURES" */
    private static void thereAre12Pictures() {
        LetterTree x = leafWith(1);
        for (int i = 1; i <= 12; i++) {
            CHECKS.due("picture", x.picture(), i);
        }
        x.put(2);
        x.fall(1);
        CHECKS.due("a 13th", x.picture(), FULL);
        CHECKS.due("there are 12", x.pictured(11), 12);
        CHECKS.due("not 13", x.pictured(12), NONE);
        CHECKS.due("nothing was written", x.writes(0), 1);
        CHECKS.due("no head either", x.writes(2), 12);
        CHECKS.due("generation", x.number(1), 12);
        CHECKS.due("CHANGED still", x.page(0, 3), NONE);
        x.fall(0);
        CHECKS.due("sync does not ask for pictures", x.sync(), 2);
        CHECKS.due("11 are left", x.release(12), 11);
        CHECKS.due("one more", x.picture(), 13);
        CHECKS.due("and no other", x.picture(), FULL);
        x.crash();
        x.rise();
        CHECKS.due("nor behind a rise", x.picture(), FULL);
        CHECKS.due("the twelfth", x.pictured(11), 13);
    }

    /** "the greatest number that a PICTURE had so far (0: none)" */
    private static void theGreatestNumberSoFar() {
        LetterTree x = leafWith(1);
        x.sync();
        x.crash();
        x.rise();
        CHECKS.due("none so far", x.picture(), 1);
        x.picture();
        x.picture();
        x.release(1);
        x.release(2);
        x.release(3);
        x.sync();
        x.sync();
        x.crash();
        x.rise();
        CHECKS.due("no picture", x.pictured(0), NONE);
        CHECKS.due("three so far", x.picture(), 4);
        x.release(4);
        x.crash();
        x.rise();
        CHECKS.due("a release that no head tells", x.pictured(0), 4);
        x.bend(0);
        x.bend(1);
        CHECKS.due("told without heads, too", x.picture(), 5);
        x.bend(0);
        x.bend(1);
        x.crash();
        x.rise();
        CHECKS.due("all as at first", x.picture(), 1);
    }

    /** look: "THE TAPE is the ROW that a KEY had in a PICTURE .. NONE .. (THE TAPE stays)." */
    private static void lookLoadsTheRow() {
        LetterTree x = new LetterTree();
        Grown.feed(x, 1, 20);
        x.put(LEAST);
        x.put(0);
        x.feed(7, 1);
        x.put(MOST);
        x.picture();
        x.sweep(LEAST, MOST);
        x.sync();
        Grown.feed(x, 101, 40);
        CHECKS.due("none", x.look(1, 1), NONE);
        CHECKS.due("none", x.look(1, -1), NONE);
        CHECKS.due("the tape stays", x.byteAt(39), 140);
        CHECKS.due("20 bytes", x.look(1, LEAST), 20);
        CHECKS.due("the last", x.byteAt(19), 20);
        CHECKS.due("no more", x.byteAt(20), NONE);
        CHECKS.due("one byte", x.look(1, MOST), 1);
        CHECKS.due("it", x.byteAt(0), 7);
        CHECKS.due("no more", x.byteAt(1), NONE);
        CHECKS.due("0 bytes", x.look(1, 0), 0);
        CHECKS.due("an empty tape", x.byteAt(0), NONE);
        CHECKS.due("now none is there", x.count(), 0);
    }

    /** "what a LEAF's ENTRIES and the LETTERS that the PAGES ON THE WAY have for a KEY make" */
    private static void lookActsTheLettersOfThePicture() {
        LetterTree x = Grown.threeLevels();
        x.feed(1, 1);
        x.put(10);
        x.drop(11);
        x.sweep(12, 20);
        x.feed(0x0203, 2);
        x.swap(30, 0);
        x.sink();
        x.feed(4, 1);
        x.append(10);
        x.append(11);
        x.drop(30);
        x.put(13);
        x.sweep(303, Long.MAX_VALUE);
        x.put(Long.MAX_VALUE);
        CHECKS.due("letters on two levels", x.letters(), x.page(0, 2) + x.page(1, 2));
        x.picture();
        x.put(12);
        x.sweep(Long.MIN_VALUE, 11);
        x.settle();
        x.sync();
        long[][] rows = {
            {10, 2}, {11, 0}, {12, NONE}, {13, 0}, {14, NONE}, {20, NONE}, {21, NONE}, {30, NONE},
            {40, 0}, {302, 0}, {303, NONE}, {304, NONE}, {Long.MAX_VALUE, 0}, {Long.MIN_VALUE, NONE},
        };
        for (long[] row : rows) {
            CHECKS.due("look(1, " + row[0] + ")", x.look(1, row[0]), row[1]);
        }
        CHECKS.due("look", x.look(1, 10), 2);
        CHECKS.due("the PUT of a leaf's page", x.byteAt(0), 1);
        CHECKS.due("the APPEND of the root", x.byteAt(1), 4);
    }

    /** look: "BAD: there is no such PICTURE." */
    private static void lookIsBadWithoutThePicture() {
        LetterTree x = leafWith(1);
        CHECKS.due("none yet", x.look(1, 1), BAD);
        CHECKS.due("none yet", x.look(0, 1), BAD);
        x.feed(9, 1);
        for (int i = 1; i <= 3; i++) {
            x.picture();
        }
        x.release(2);
        CHECKS.due("picture 0", x.look(0, 1), BAD);
        CHECKS.due("one that is released", x.look(2, 1), BAD);
        CHECKS.due("behind the last", x.look(4, 1), BAD);
        for (int far : FAR) {
            CHECKS.due("look(" + far + ", 1)", x.look(far, 1), BAD);
            CHECKS.due("no picture and no key", x.look(far, 2), BAD);
        }
        CHECKS.due("the tape stays", x.byteAt(0), 9);
        CHECKS.due("the first", x.look(1, 1), 0);
        CHECKS.due("the last", x.look(3, 1), 0);
    }

    /** release: "A PICTURE goes: how many there are. NONE." */
    private static void releaseTellsHowMany() {
        LetterTree x = leafWith(1);
        CHECKS.due("none yet", x.release(1), NONE);
        CHECKS.due("picture 0", x.release(0), NONE);
        for (int i = 1; i <= 4; i++) {
            x.picture();
        }
        for (int far : FAR) {
            CHECKS.due("release(" + far + ")", x.release(far), NONE);
        }
        CHECKS.due("picture 0", x.release(0), NONE);
        CHECKS.due("behind the last", x.release(5), NONE);
        CHECKS.due("one in the middle", x.release(2), 3);
        CHECKS.due("again", x.release(2), NONE);
        CHECKS.due("the last", x.release(4), 2);
        CHECKS.due("the first", x.release(1), 1);
        CHECKS.due("the only one", x.release(3), 0);
        CHECKS.due("none", x.release(3), NONE);
        CHECKS.due("nothing is written", x.writes(2), 4);
    }

    /** pictured: "The number of the k-th PICTURE that there is, rising, from 0 on. NONE." */
    private static void picturedIsRising() {
        LetterTree x = leafWith(1);
        CHECKS.due("none", x.pictured(0), NONE);
        for (int i = 1; i <= 5; i++) {
            x.picture();
        }
        x.release(1);
        x.release(4);
        int[] left = {2, 3, 5};
        for (int k = 0; k < left.length; k++) {
            CHECKS.due("pictured(" + k + ")", x.pictured(k), left[k]);
        }
        CHECKS.due("one behind", x.pictured(3), NONE);
        for (int far : FAR) {
            CHECKS.due("pictured(" + far + ")", x.pictured(far), NONE);
        }
    }

    private static void head(LetterTree x, int h, int... wants) {
        for (int what = 0; what < 4; what++) {
            CHECKS.due("disk(" + h + ", " + what + ")", x.disk(h, what), wants[what]);
        }
        CHECKS.due("disk(" + h + ", -1)", x.disk(h, -1), NONE);
        CHECKS.due("disk(" + h + ", 4)", x.disk(h, 4), NONE);
        for (int far : FAR) {
            CHECKS.due("disk(" + h + ", " + far + ")", x.disk(h, far), NONE);
        }
    }

    /** disk: "Of HEAD h .. NONE: h is not 0, 1, another what." */
    private static void diskTells() {
        LetterTree x = Grown.leaf(6);
        x.picture();
        x.put(70);
        x.picture();
        head(x, 1, 1, 6, 1, 1);
        head(x, 0, 2, 7, 2, 3);
        x.drop(1);
        x.release(1);
        head(x, 0, 2, 7, 2, 3);
        for (int what = 0; what < 4; what++) {
            CHECKS.due("h is -1", x.disk(-1, what), NONE);
            CHECKS.due("h is 2", x.disk(2, what), NONE);
            for (int far : FAR) {
                CHECKS.due("h is " + far, x.disk(far, what), NONE);
            }
        }
        x.crash();
        head(x, 1, 1, 6, 1, 1);
        head(x, 0, 2, 7, 2, 3);
    }

    /** disk: "(0: it is none) .. (0 each, if it is none)" */
    private static void diskOfNoHead() {
        LetterTree x = new LetterTree();
        head(x, 0, 0, 0, 0, 0);
        head(x, 1, 0, 0, 0, 0);
        x.put(1);
        x.picture();
        head(x, 0, 0, 0, 0, 0);
        head(x, 1, 1, 1, 1, 1);
        x.bend(1);
        head(x, 1, 0, 0, 0, 0);
    }

    /** bend: "HEAD h is none: 1 if it was one, else 0. NONE: h is not 0, 1. (DOWN or not.)" */
    private static void bendTells() {
        LetterTree x = new LetterTree();
        CHECKS.due("none yet", x.bend(0), 0);
        CHECKS.due("none yet", x.bend(1), 0);
        x.sync();
        CHECKS.due("h is -1", x.bend(-1), NONE);
        CHECKS.due("h is 2", x.bend(2), NONE);
        for (int far : FAR) {
            CHECKS.due("bend(" + far + ")", x.bend(far), NONE);
        }
        CHECKS.due("head 1 stays", x.disk(1, 0), 1);
        CHECKS.due("head 0", x.bend(0), 0);
        CHECKS.due("head 1", x.bend(1), 1);
        CHECKS.due("again", x.bend(1), 0);
        x.sync();
        x.crash();
        CHECKS.due("DOWN: h is 2", x.bend(2), NONE);
        CHECKS.due("DOWN: head 1", x.bend(1), 0);
        CHECKS.due("DOWN: head 0", x.bend(0), 1);
        CHECKS.due("DOWN: again", x.bend(0), 0);
        CHECKS.due("no head", x.rise(), 0);
    }

    /** writes: "Writings in all .. NONE." */
    private static void writesTell() {
        LetterTree x = Grown.twoLeaves();
        int[] none = {-1, 4};
        for (int what : none) {
            CHECKS.due("writes(" + what + ")", x.writes(what), NONE);
        }
        for (int far : FAR) {
            CHECKS.due("writes(" + far + ")", x.writes(far), NONE);
        }
        for (int what = 0; what < 4; what++) {
            CHECKS.due("none so far", x.writes(what), 0);
        }
        x.sync();
        int[] first = {2, 1, 1, 0};
        x.crash();
        for (int what = 0; what < 4; what++) {
            CHECKS.due("in all, DOWN too", x.writes(what), first[what]);
        }
        x.rise();
        x.put(1);
        x.settle();
        x.picture();
        int[] second = {3, 2, 2, 0};
        for (int what = 0; what < 4; what++) {
            CHECKS.due("in all", x.writes(what), second[what]);
        }
    }

    /** number: "What 0: the NUMBER of the latest WRITE (0: none), 1: the GENERATION. NONE .." */
    private static void numberTells() {
        LetterTree x = new LetterTree();
        CHECKS.due("no WRITE", x.number(0), 0);
        CHECKS.due("no generation", x.number(1), 0);
        CHECKS.due("number(-1)", x.number(-1), NONE);
        CHECKS.due("number(2)", x.number(2), NONE);
        for (int far : FAR) {
            CHECKS.due("number(" + far + ")", x.number(far), NONE);
        }
        x.put(1);
        x.sync();
        x.put(2);
        CHECKS.due("two", x.number(0), 2);
        CHECKS.due("one", x.number(1), 1);
        x.crash();
        x.rise();
        CHECKS.due("as the head says", x.number(0), 1);
        x.put(3);
        CHECKS.due("and on", x.number(0), 2);
    }
}
