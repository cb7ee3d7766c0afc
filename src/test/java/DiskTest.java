/** Promises 25 to 37: sync, pictures, free, fall, crash, rise, disk, bend, writes, number. */
public final class DiskTest {
    private static final Checks CHECKS = new Checks();
    private static final int NONE = LetterTree.NONE, BAD = LetterTree.BAD, FULL = LetterTree.FULL;
    private static final int DOWN = LetterTree.DOWN, FELL = LetterTree.FELL;

    public static void main(String[] args) {
        syncTakesTheLeastPlaces();
        headsTell();
        picturesKeepTheirRows();
        picturesAreTwelve();
        releasedPicturesStayInHeads();
        fallAtAPage();
        fallAtAHead();
        fallIsSet();
        fallStaysDueBehindCrash();
        crashAndRise();
        greatestPictureOfBothHeads();
        riseTakesTheGreatestGeneration();
        bendFreesPlaces();
        wrongNumbers();
        downRefuses();
        CHECKS.end();
    }

    private static LetterTree twoLeaves() {
        LetterTree x = new LetterTree();
        for (long key = 10; key <= 70; key += 10) {
            x.put(key);
        }
        return x;
    }

    private static void head(LetterTree x, int h, int generation, int number, int pictures, int pages) {
        CHECKS.due("disk(" + h + ", 0)", x.disk(h, 0), generation);
        CHECKS.due("disk(" + h + ", 1)", x.disk(h, 1), number);
        CHECKS.due("disk(" + h + ", 2)", x.disk(h, 2), pictures);
        CHECKS.due("disk(" + h + ", 3)", x.disk(h, 3), pages);
    }

    private static void writes(LetterTree x, int leaves, int inners, int heads, int torn) {
        CHECKS.due("writes(0)", x.writes(0), leaves);
        CHECKS.due("writes(1)", x.writes(1), inners);
        CHECKS.due("writes(2)", x.writes(2), heads);
        CHECKS.due("writes(3)", x.writes(3), torn);
    }

    private static void syncTakesTheLeastPlaces() {
        LetterTree x = new LetterTree();
        int[] places = {0, 1, 2, 0, 1, 2};
        for (int i = 0; i < places.length; i++) {
            x.put(5);
            CHECKS.due("a leaf and a head", x.sync(), 2);
            CHECKS.due("its place", x.page(0, 3), places[i]);
            CHECKS.due("free", x.free(), i == 0 ? 999 : 998);
        }
        CHECKS.due("only a head", x.sync(), 1);
        CHECKS.due("both heads have this tree", x.free(), 999);
        writes(x, 6, 0, 7, 0);
        x.put(5);
        CHECKS.due("a leaf that is CHANGED has no place", x.free(), 999);
    }

    private static void headsTell() {
        LetterTree x = twoLeaves();
        CHECKS.due("two leaves, a root, a head", x.sync(), 4);
        head(x, 1, 1, 7, 0, 3);
        head(x, 0, 0, 0, 0, 0);
        x.drop(99);
        CHECKS.due("picture", x.picture(), 1);
        head(x, 0, 2, 8, 1, 3);
        head(x, 1, 1, 7, 0, 3);
        writes(x, 2, 2, 2, 0);
        CHECKS.due("number", x.number(0), 8);
        CHECKS.due("generation", x.number(1), 2);
        x.release(1);
        x.sync();
        head(x, 1, 3, 8, 0, 3);
        CHECKS.due("generation", x.number(1), 3);
    }

    private static void picturesKeepTheirRows() {
        LetterTree x = twoLeaves();
        x.feed(0x0102, 2);
        x.put(11);
        CHECKS.due("picture", x.picture(), 1);
        x.drop(11);
        x.feed(3, 1);
        x.put(12);
        x.settle();
        CHECKS.due("picture", x.picture(), 2);
        x.sweep(Long.MIN_VALUE, Long.MAX_VALUE);
        x.settle();
        x.sync();
        x.sync();
        x.feed(9, 1);
        CHECKS.due("no such key: NONE", x.look(2, 11), NONE);
        CHECKS.due("the tape stays", x.byteAt(0), 9);
        CHECKS.due("in a room", x.look(1, 11), 2);
        CHECKS.due("the tape is the row", x.byteAt(1), 2);
        CHECKS.due("not yet", x.look(1, 12), NONE);
        CHECKS.due("in a leaf", x.look(2, 12), 1);
        CHECKS.due("its byte", x.byteAt(0), 3);
        CHECKS.due("an empty row", x.look(1, 70), 0);
        x.put(80);
        x.feed(0x0102, 2);
        x.swap(80, 1);
        x.swap(81, 0);
        CHECKS.due("picture", x.picture(), 3);
        CHECKS.due("a swap that does nothing", x.look(3, 80), 0);
        CHECKS.due("a swap of no key", x.look(3, 81), NONE);
        x.release(3);
        x.sweep(80, 80);
        CHECKS.due("no such picture", x.look(3, 12), BAD);
        CHECKS.due("nor this", x.look(0, 12), BAD);
        CHECKS.due("pictured", x.pictured(0), 1);
        CHECKS.due("pictured", x.pictured(1), 2);
        CHECKS.due("pictured", x.pictured(2), NONE);
        CHECKS.due("pictured", x.pictured(-1), NONE);
        CHECKS.due("count", x.count(), 0);
    }

    private static void picturesAreTwelve() {
        LetterTree x = new LetterTree();
        for (int i = 1; i <= 12; i++) {
            CHECKS.due("picture", x.picture(), i);
        }
        int heads = x.writes(2);
        CHECKS.due("a 13th", x.picture(), FULL);
        CHECKS.due("nothing was written", x.writes(2), heads);
        CHECKS.due("release", x.release(5), 11);
        CHECKS.due("again", x.release(5), NONE);
        CHECKS.due("the fifth is the sixth", x.pictured(4), 6);
        CHECKS.due("the next number", x.picture(), 13);
        CHECKS.due("the last", x.pictured(11), 13);
        CHECKS.due("full again", x.picture(), FULL);
        CHECKS.due("one page for all", x.free(), 999);
        CHECKS.due("sync is not full", x.sync(), 1);
    }

    private static void releasedPicturesStayInHeads() {
        LetterTree x = new LetterTree();
        x.put(1);
        x.picture();
        x.put(2);
        x.sync();
        x.put(3);
        x.sync();
        CHECKS.due("picture, two heads", x.free(), 997);
        CHECKS.due("release", x.release(1), 0);
        CHECKS.due("heads have it", x.free(), 997);
        x.sync();
        CHECKS.due("one has it", x.free(), 997 + 1);
        x.sync();
        CHECKS.due("none has it", x.free(), 999);
        x.picture();
        x.release(2);
        x.crash();
        x.rise();
        CHECKS.due("a head had it", x.pictured(0), 2);
        CHECKS.due("look", x.look(2, 3), 0);
        x.put(4);
        x.bend(0);
        x.bend(1);
        CHECKS.due("a picture has its page without heads", x.free(), 999);
        x.release(2);
        CHECKS.due("now none has it", x.free(), 1000);
    }

    private static void fallAtAPage() {
        LetterTree x = twoLeaves();
        x.sync();
        x.put(1);
        x.put(71);
        x.settle();
        CHECKS.due("fall", x.fall(2), 2);
        CHECKS.due("at the second leaf", x.sync(), FELL);
        writes(x, 4, 1, 1, 1);
        CHECKS.due("down", x.count(), DOWN);
        head(x, 1, 1, 7, 0, 3);
        CHECKS.due("rise", x.rise(), 1);
        CHECKS.due("as the head says", x.count(), 7);
        CHECKS.due("number", x.number(0), 7);
        CHECKS.due("its places", x.page(0, 3), 2);
        CHECKS.due("what was written is free", x.free(), 997);
        x.put(71);
        CHECKS.due("it came once", x.sync(), 2);
        CHECKS.due("the least free place", x.page(0, 3), 3);
    }

    private static void fallAtAHead() {
        LetterTree x = new LetterTree();
        x.put(1);
        x.sync();
        x.put(2);
        x.sync();
        x.put(3);
        x.fall(2);
        CHECKS.due("at head 1", x.picture(), FELL);
        writes(x, 3, 0, 3, 1);
        head(x, 1, 0, 0, 0, 0);
        head(x, 0, 2, 2, 0, 1);
        CHECKS.due("rise", x.rise(), 2);
        CHECKS.due("count", x.count(), 2);
        CHECKS.due("no picture", x.pictured(0), NONE);
        CHECKS.due("one tree", x.free(), 999);
        CHECKS.due("its number is given anew", x.picture(), 1);
        head(x, 1, 3, 2, 1, 1);
        LetterTree y = new LetterTree();
        y.fall(2);
        CHECKS.due("at the first head", y.sync(), FELL);
        CHECKS.due("no head", y.rise(), 0);
        CHECKS.due("as at first", y.number(1), 0);
        CHECKS.due("CHANGED", y.page(0, 3), NONE);
        CHECKS.due("generation 1", y.sync(), 2);
        CHECKS.due("head 1", y.disk(1, 0), 1);
    }

    private static void fallIsSet() {
        LetterTree x = new LetterTree();
        CHECKS.due("fall(-1)", x.fall(-1), BAD);
        CHECKS.due("fall(10001)", x.fall(10001), BAD);
        CHECKS.due("fall(10000)", x.fall(10000), 10000);
        CHECKS.due("fall(1)", x.fall(1), 1);
        CHECKS.due("BAD leaves it", x.fall(-5), BAD);
        CHECKS.due("fall(0)", x.fall(0), 0);
        CHECKS.due("none comes", x.sync(), 2);
        x.fall(1);
        CHECKS.due("set anew", x.fall(3), 3);
        CHECKS.due("first", x.sync(), 1);
        CHECKS.due("second", x.sync(), 1);
        CHECKS.due("third", x.sync(), FELL);
        CHECKS.due("when DOWN", x.fall(2), 2);
        CHECKS.due("BAD when DOWN", x.fall(-2), BAD);
        CHECKS.due("rise", x.rise(), 3);
        CHECKS.due("first", x.sync(), 1);
        CHECKS.due("second", x.sync(), FELL);
    }

    private static void fallStaysDueBehindCrash() {
        LetterTree x = new LetterTree();
        x.fall(3);
        CHECKS.due("two writings", x.sync(), 2);
        CHECKS.due("crash", x.crash(), 0);
        CHECKS.due("rise", x.rise(), 1);
        CHECKS.due("the third", x.sync(), FELL);
        writes(x, 1, 0, 2, 1);
    }

    private static void crashAndRise() {
        LetterTree x = twoLeaves();
        x.feed(0x0506, 2);
        x.put(11);
        x.feed(7, 1);
        x.append(11);
        x.drop(20);
        x.sweep(40, 60);
        x.picture();
        x.put(99);
        CHECKS.due("rise is BAD", x.rise(), BAD);
        CHECKS.due("crash", x.crash(), 0);
        CHECKS.due("rise", x.rise(), 1);
        CHECKS.due("count", x.count(), 4);
        CHECKS.due("letters are there", x.letters(), 5);
        CHECKS.due("number", x.number(0), 11);
        CHECKS.due("row", x.get(11), 3);
        CHECKS.due("byte", x.byteAt(2), 7);
        CHECKS.due("not synced", x.has(99), 0);
        CHECKS.due("nothing is CHANGED", x.sync(), 1);
        CHECKS.due("picture", x.look(1, 11), 3);
        LetterTree y = twoLeaves();
        y.crash();
        CHECKS.due("without a head", y.rise(), 0);
        CHECKS.due("empty", y.count(), 0);
        CHECKS.due("a leaf", y.pages(), 1);
        CHECKS.due("no number", y.number(0), 0);
        CHECKS.due("the next write is 1", y.put(3), 0);
        CHECKS.due("number", y.number(0), 1);
    }

    private static void greatestPictureOfBothHeads() {
        LetterTree x = new LetterTree();
        x.picture();
        x.picture();
        x.bend(0);
        x.crash();
        CHECKS.due("head 1", x.rise(), 1);
        CHECKS.due("it told 1", x.picture(), 2);
        LetterTree y = new LetterTree();
        y.sync();
        y.picture();
        y.release(1);
        y.sync();
        y.crash();
        CHECKS.due("head 1", y.rise(), 3);
        CHECKS.due("none is there", y.pictured(0), NONE);
        CHECKS.due("but one was", y.picture(), 2);
    }

    private static void riseTakesTheGreatestGeneration() {
        LetterTree x = new LetterTree();
        x.put(1);
        x.sync();
        x.put(2);
        x.sync();
        x.crash();
        CHECKS.due("head 0", x.rise(), 2);
        CHECKS.due("count", x.count(), 2);
        x.put(3);
        x.sync();
        x.crash();
        CHECKS.due("head 1", x.rise(), 3);
        CHECKS.due("count", x.count(), 3);
        x.crash();
        CHECKS.due("bend when DOWN", x.bend(1), 1);
        CHECKS.due("head 0", x.rise(), 2);
        CHECKS.due("count", x.count(), 2);
        CHECKS.due("bend again", x.bend(1), 0);
    }

    private static void bendFreesPlaces() {
        LetterTree x = twoLeaves();
        x.sync();
        CHECKS.due("bend", x.bend(1), 1);
        CHECKS.due("the tree has them", x.free(), 997);
        x.put(1);
        CHECKS.due("but not the root's", x.free(), 998);
        CHECKS.due("sync", x.sync(), 2);
        CHECKS.due("written over", x.page(0, 3), 2);
        CHECKS.due("generation goes on", x.number(1), 2);
        CHECKS.due("head 0", x.disk(0, 0), 2);
        CHECKS.due("bend(0)", x.bend(0), 1);
        CHECKS.due("bend(0) again", x.bend(0), 0);
        CHECKS.due("head 0 is none", x.disk(0, 3), 0);
    }

    private static void wrongNumbers() {
        LetterTree x = new LetterTree();
        x.sync();
        int[] wrong = {-1, 4, Integer.MAX_VALUE, Integer.MIN_VALUE};
        for (int what : wrong) {
            CHECKS.due("disk(1, " + what + ")", x.disk(1, what), NONE);
            CHECKS.due("disk(0, " + what + ")", x.disk(0, what), NONE);
            CHECKS.due("disk(" + what + ", 0)", x.disk(what, 0), NONE);
            CHECKS.due("bend(" + what + ")", x.bend(what), NONE);
            CHECKS.due("writes(" + what + ")", x.writes(what), NONE);
            CHECKS.due("number(" + what + ")", x.number(what), NONE);
            CHECKS.due("release(" + what + ")", x.release(what), NONE);
            CHECKS.due("look(" + what + ")", x.look(what, 0), BAD);
        }
        CHECKS.due("disk(2, 0)", x.disk(2, 0), NONE);
        CHECKS.due("number(2)", x.number(2), NONE);
    }

    private static void downRefuses() {
        LetterTree x = new LetterTree();
        x.picture();
        x.crash();
        CHECKS.due("sync", x.sync(), DOWN);
        CHECKS.due("picture", x.picture(), DOWN);
        CHECKS.due("look", x.look(9, 1), DOWN);
        CHECKS.due("release", x.release(1), DOWN);
        CHECKS.due("pictured", x.pictured(0), DOWN);
        CHECKS.due("free", x.free(), DOWN);
        CHECKS.due("crash", x.crash(), DOWN);
        CHECKS.due("number", x.number(7), DOWN);
        CHECKS.due("disk", x.disk(1, 0), 1);
        CHECKS.due("writes", x.writes(2), 1);
        CHECKS.due("bend", x.bend(0), 0);
        CHECKS.due("rise", x.rise(), 1);
    }
}
