/** Promises 25, 26, 30: "if not as many PLACES are free as PAGES are CHANGED: FULL." */
public final class FullDiskTest {
    private static final Checks CHECKS = new Checks();
    private static final int NONE = LetterTree.NONE, FULL = LetterTree.FULL;
    private static final int FELL = LetterTree.FELL;

    public static void main(String[] args) {
        placesAreTaken();
        oneFewerThanAreFree();
        asManyAsAreFree();
        oneMoreThanAreFree();
        aPictureNeedsPlaces();
        noneAreFreeAndNoneIsNeeded();
        noneAreFreeAndOneIsNeeded();
        fullIsAheadOfAFall();
        placesBecomeFree();
        CHECKS.end();
    }

    private static void placesAreTaken() {
        LetterTree x = new LetterTree();
        for (long key : FullDisk.keys()) {
            x.put(key);
        }
        x.settle();
        int pages = FullDisk.LEAVES + FullDisk.INNERS;
        CHECKS.due("pages", x.pages(), pages);
        CHECKS.due("height", x.height(), 5);
        x.picture();
        int free = 1000 - pages;
        CHECKS.due("free", x.free(), free);
        FullDisk.changeInners(x);
        CHECKS.due("all is CHANGED", x.sync(), pages + 1);
        free -= pages;
        CHECKS.due("free", x.free(), free);
        CHECKS.due("a picture of it", x.picture(), 2);
        for (int i = 3; i <= 12; i++) {
            FullDisk.changeInners(x);
            CHECKS.due("picture", x.picture(), i);
            free -= FullDisk.INNERS;
            CHECKS.due("free", x.free(), free);
        }
        FullDisk.changeInners(x);
        CHECKS.due("sync", x.sync(), FullDisk.INNERS + 1);
        CHECKS.due("free", x.free(), 6);
        FullDisk.changeInners(x);
        CHECKS.due("58 PAGES for 6 PLACES", x.sync(), FULL);
    }

    /** A WRITE to each of the first LEAVES, which lie below one PAGE: 4 PAGES above them, and they. */
    private static LetterTree changed(int pages) {
        LetterTree x = FullDisk.made();
        x.put(Long.MIN_VALUE);
        for (int k = 1; k < pages - 4; k++) {
            x.border(3, k);
            x.put(x.found());
        }
        x.settle();
        for (int i = 0; i < pages + 1; i++) {
            CHECKS.due("CHANGED or not: " + i, x.page(i, 3) == NONE ? 1 : 0, i < pages ? 1 : 0);
        }
        return x;
    }

    private static void oneFewerThanAreFree() {
        LetterTree x = changed(5);
        CHECKS.due("free", x.free(), 6);
        CHECKS.due("sync", x.sync(), 6);
        CHECKS.due("free", x.free(), 1);
        CHECKS.due("the root's place", x.page(0, 3), 998);
    }

    private static void asManyAsAreFree() {
        LetterTree x = changed(6);
        CHECKS.due("sync", x.sync(), 7);
        CHECKS.due("free", x.free(), 0);
        CHECKS.due("the last place", x.page(0, 3), 999);
        CHECKS.due("count", x.count(), 2);
        x.crash();
        CHECKS.due("rise", x.rise(), 14);
        CHECKS.due("free", x.free(), 0);
        CHECKS.due("count", x.count(), 2);
        CHECKS.due("the first picture", x.look(1, 121), 0);
    }

    private static void oneMoreThanAreFree() {
        LetterTree x = changed(7);
        int[] writes = {x.writes(0), x.writes(1), x.writes(2), x.writes(3)};
        CHECKS.due("sync", x.sync(), FULL);
        for (int what = 0; what < 4; what++) {
            CHECKS.due("nothing was written", x.writes(what), writes[what]);
        }
        CHECKS.due("free", x.free(), 6);
        CHECKS.due("generation", x.number(1), 13);
        CHECKS.due("head 1", x.disk(1, 0), 13);
        CHECKS.due("head 0", x.disk(0, 0), 12);
        CHECKS.due("CHANGED", x.page(0, 3), NONE);
        CHECKS.due("CHANGED", x.page(6, 3), NONE);
        CHECKS.due("count", x.count(), 3);
        CHECKS.due("again", x.sync(), FULL);
        x.crash();
        CHECKS.due("rise", x.rise(), 13);
        CHECKS.due("as it was written", x.count(), 0);
    }

    /** picture: "FULL: also 12 PICTURES": here there are 11. */
    private static void aPictureNeedsPlaces() {
        LetterTree x = changed(7);
        CHECKS.due("release", x.release(12), 11);
        CHECKS.due("heads have it", x.free(), 6);
        CHECKS.due("picture", x.picture(), FULL);
        CHECKS.due("none more", x.pictured(11), NONE);
        CHECKS.due("the last", x.pictured(10), 11);
        CHECKS.due("head 0 is none", x.bend(0), 1);
        CHECKS.due("head 1 is none", x.bend(1), 1);
        CHECKS.due("the number was not used", x.picture(), 13);
        LetterTree y = changed(6);
        y.release(12);
        CHECKS.due("as many as are free", y.picture(), 13);
        CHECKS.due("free", y.free(), 0);
    }

    private static void noneAreFreeAndNoneIsNeeded() {
        LetterTree x = changed(6);
        x.sync();
        CHECKS.due("free", x.free(), 0);
        CHECKS.due("only a head", x.sync(), 1);
        CHECKS.due("the other head's PAGES are free now", x.free(), 4);
    }

    private static void noneAreFreeAndOneIsNeeded() {
        LetterTree x = changed(6);
        x.sync();
        x.drop(1);
        CHECKS.due("a letter", x.letters(), 1);
        CHECKS.due("the root's place is its head's still", x.free(), 0);
        CHECKS.due("sync", x.sync(), FULL);
        x.bend(0);
        CHECKS.due("now it is free", x.free(), 1);
        CHECKS.due("sync", x.sync(), 2);
        CHECKS.due("written over", x.page(0, 3), 999);
    }

    private static void fullIsAheadOfAFall() {
        LetterTree x = changed(7);
        x.fall(1);
        CHECKS.due("FULL", x.sync(), FULL);
        CHECKS.due("it is not DOWN", x.count(), 3);
        x.bend(1);
        CHECKS.due("the fall is due still", x.sync(), FELL);
    }

    private static void placesBecomeFree() {
        LetterTree x = changed(7);
        CHECKS.due("FULL", x.sync(), FULL);
        CHECKS.due("11 pictures", x.release(5), 11);
        CHECKS.due("heads have it", x.free(), 6);
        x.bend(0);
        CHECKS.due("one head has it", x.free(), 6);
        x.bend(1);
        // Picture 5 alone had its 58 INNER PAGES; the head that is bent had 4 that the tree has not.
        CHECKS.due("none has it", x.free(), 6 + 58 + 4);
        CHECKS.due("sync", x.sync(), 8);
    }
}
