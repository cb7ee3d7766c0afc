import java.util.Random;

/** Runs of 512 calls, drawn from fixed seeds, on LetterTree and on PlainStore. */
public final class RandomRunsTest {
    private static final int CALLS = 512;
    private final Checks checks = new Checks();
    private Random dice;
    private LetterTree tree;
    private PlainStore plain;
    private String run;
    private long keys;

    public static void main(String[] args) {
        int runs = args.length > 0 ? Integer.parseInt(args[0]) : 240;
        RandomRunsTest test = new RandomRunsTest();
        for (int seed = 0; seed < runs && !test.checks.anyWrong(); seed++) {
            test.oneRun(seed);
        }
        for (int seed = 0; seed < runs / 4 && !test.checks.anyWrong(); seed++) {
            test.oneEvenRun(seed);
        }
        for (int seed = 0; seed < runs / 60 && !test.checks.anyWrong(); seed++) {
            test.oneRunOnAFullDisk(seed);
        }
        test.checks.end();
    }

    private void begin(int seed) {
        dice = new Random(seed);
        tree = new LetterTree();
        plain = new PlainStore();
        run = "seed " + seed + ": ";
    }

    /** As FullDisk.made() does, and then what comes. */
    private void oneRunOnAFullDisk(int seed) {
        begin(seed);
        keys = 420;
        for (long key : FullDisk.keys()) {
            due("put(" + key + ")", tree.put(key), plain.put(key));
        }
        int call = 420;
        for (; call < 455; call += 3) {
            due("settle()", tree.settle(), plain.settle());
            due("picture()", tree.picture(), plain.picture());
            long last = dice.nextInt(3) == 0 ? key() : Long.MAX_VALUE;
            long low = Long.MIN_VALUE;
            due("sweep to " + last, tree.sweep(low, last), plain.sweep(low, last));
        }
        for (; call < CALLS && !checks.anyWrong(); call++) {
            run = "seed " + seed + " on a full disk, call " + call + ": ";
            fullDiskCall();
        }
    }

    private void fullDiskCall() {
        switch (dice.nextInt(8)) {
            case 0:
            case 1:
                long key = key();
                due("put(" + key + ")", tree.put(key), plain.put(key));
                break;
            case 2:
                due("settle()", tree.settle(), plain.settle());
                break;
            case 3:
                due("sync()", tree.sync(), plain.sync());
                break;
            case 4:
                due("sweep of all", tree.sweep(Long.MIN_VALUE, Long.MAX_VALUE),
                        plain.sweep(Long.MIN_VALUE, Long.MAX_VALUE));
                break;
            case 5:
                due("free()", tree.free(), plain.free());
                break;
            case 6:
                pageCall(small(Math.max(1, plain.pages())));
                break;
            default:
                diskCall();
        }
    }

    /** All LEAVES grow alike, so that many become too big at once, and their PAGES with them. */
    private void oneEvenRun(int seed) {
        begin(seed);
        keys = 1 << 16;
        int strays = dice.nextInt(4);
        int others = dice.nextInt(3);
        int calls = 80 + dice.nextInt(CALLS - 80);
        for (int call = 0; call < calls && !checks.anyWrong(); call++) {
            run = "seed " + seed + ", evenly, call " + call + ": ";
            if (dice.nextInt(40) < others) {
                evenRunCall();
            } else {
                long key = dice.nextInt(12) < strays ? key() : Integer.reverse(call) >>> 16;
                due("put(" + key + ")", tree.put(key), plain.put(key));
            }
        }
        run = "seed " + seed + ", evenly, at the end: ";
        allPages();
        due("settle()", tree.settle(), plain.settle());
        allPages();
    }

    private void evenRunCall() {
        switch (dice.nextInt(6)) {
            case 0:
                due("settle()", tree.settle(), plain.settle());
                break;
            case 1:
                due("sync()", tree.sync(), plain.sync());
                break;
            case 2:
                long key = key();
                long last = key + (1 << dice.nextInt(16));
                due("sweep(" + key + ", " + last + ")", tree.sweep(key, last), plain.sweep(key, last));
                break;
            default:
                due("sink()", tree.sink(), plain.sink());
        }
    }

    private void allPages() {
        int pages = plain.pages();
        due("pages()", tree.pages(), pages);
        for (int i = 0; i < pages; i++) {
            for (int what = 0; what <= 3; what++) {
                due("page(" + i + ", " + what + ")", tree.page(i, what), plain.page(i, what));
            }
        }
    }

    private void oneRun(int seed) {
        begin(seed);
        keys = new long[] {12, 60, 400, 5000, 0}[seed % 5];
        int style = seed / 5 % 6;
        for (int call = 0; call < CALLS && !checks.anyWrong(); call++) {
            run = "seed " + seed + " call " + call + ": ";
            if (dice.nextInt(100) < writesOf(style)) {
                writeCall(style);
            } else {
                otherCall(style);
            }
            if (style == 5 && dice.nextInt(3) == 0) {
                treeCall();
            }
        }
    }

    private static int writesOf(int style) {
        return new int[] {50, 80, 65, 75, 90, 45}[style];
    }

    private long key() {
        int kind = dice.nextInt(60);
        if (kind == 0) {
            return Long.MIN_VALUE;
        }
        if (kind == 1) {
            return Long.MAX_VALUE;
        }
        return keys == 0 ? dice.nextLong() : dice.nextLong(keys) - keys / 3;
    }

    private int small(int most) {
        return dice.nextInt(most + 2) - 1;
    }

    private void due(String call, long got, long want) {
        checks.due(run + call, got, want);
    }

    private void writeCall(int style) {
        long key = key();
        int kind = dice.nextInt(style == 3 ? 24 : 20);
        if (kind < 3) {
            feedSome();
        } else if (kind < 12) {
            due("put(" + key + ")", tree.put(key), plain.put(key));
        } else if (kind < 14) {
            due("append(" + key + ")", tree.append(key), plain.append(key));
        } else if (kind < 17) {
            swapSome(key);
        } else if (kind < 19) {
            due("drop(" + key + ")", tree.drop(key), plain.drop(key));
        } else {
            sweepSome(key);
        }
    }

    private void feedSome() {
        long w = dice.nextInt(3) == 0 ? dice.nextLong() : dice.nextInt(2);
        int n = dice.nextInt(3) == 0 ? small(9) : dice.nextInt(3) == 0 ? 8 : 1;
        due("feed(" + w + ", " + n + ")", tree.feed(w, n), plain.feed(w, n));
        if (dice.nextInt(4) == 0) {
            int keep = small(21);
            due("cut(" + keep + ")", tree.cut(keep), plain.cut(keep));
        }
    }

    private void swapSome(long key) {
        int n = small(21);
        if (dice.nextInt(3) > 0) {
            due("get(" + key + ")", tree.get(key), plain.get(key));
            n = Math.max(0, plain.get(key));
            due("feed", tree.feed(7, 1), plain.feed(7, 1));
        }
        due("swap(" + key + ", " + n + ")", tree.swap(key, n), plain.swap(key, n));
    }

    private void sweepSome(long key) {
        long other = key();
        if (dice.nextInt(4) > 0) {
            other = key + dice.nextInt(9);
        }
        due("sweep(" + key + ", " + other + ")", tree.sweep(key, other), plain.sweep(key, other));
    }

    private void otherCall(int style) {
        int kind = dice.nextInt(style == 4 ? 3 : 5);
        if (kind == 0) {
            mapCall();
        } else if (kind < 3) {
            treeCall();
        } else {
            diskCall();
        }
    }

    private void mapCall() {
        long key = key();
        int i = small(41);
        due("get(" + key + ")", tree.get(key), plain.get(key));
        due("byteAt(" + i + ")", tree.byteAt(i), plain.byteAt(i));
        due("has(" + key + ")", tree.has(key), plain.has(key));
        due("next(" + key + ")", tree.next(key), plain.next(key));
        due("found()", tree.found(), plain.found());
        due("prior(" + key + ")", tree.prior(key), plain.prior(key));
        due("found()", tree.found(), plain.found());
        due("count()", tree.count(), plain.count());
    }

    private void treeCall() {
        int kind = dice.nextInt(20);
        if (kind == 0) {
            due("settle()", tree.settle(), plain.settle());
        } else if (kind < 4) {
            due("sink()", tree.sink(), plain.sink());
        }
        due("pages()", tree.pages(), plain.pages());
        due("height()", tree.height(), plain.height());
        due("letters()", tree.letters(), plain.letters());
        long key = key();
        due("met(" + key + ")", tree.met(key), plain.met(key));
        int some = Math.max(1, plain.pages());
        for (int turn = 0; turn < 3; turn++) {
            pageCall(small(some));
        }
    }

    private void pageCall(int i) {
        for (int what = -1; what <= 4; what++) {
            due("page(" + i + ", " + what + ")", tree.page(i, what), plain.page(i, what));
        }
        int k = small(7);
        due("border(" + i + ", " + k + ")", tree.border(i, k), plain.border(i, k));
        due("found()", tree.found(), plain.found());
        for (int what = -1; what <= 2; what++) {
            String call = "letter(" + i + ", " + k + ", " + what + ")";
            due(call, tree.letter(i, k, what), plain.letter(i, k, what));
        }
    }

    private void diskCall() {
        switch (dice.nextInt(12)) {
            case 0:
            case 1:
                due("sync()", tree.sync(), plain.sync());
                break;
            case 2:
                for (int turn = dice.nextInt(9) == 0 ? 9 : 1; turn > 0; turn--) {
                    due("picture()", tree.picture(), plain.picture());
                }
                break;
            case 3:
                int gone = 1 + small(9);
                due("release(" + gone + ")", tree.release(gone), plain.release(gone));
                break;
            case 4:
                int n = dice.nextInt(8) == 0 ? 9998 + dice.nextInt(5) : small(12);
                due("fall(" + n + ")", tree.fall(n), plain.fall(n));
                break;
            case 5:
                if (dice.nextInt(4) == 0) {
                    due("crash()", tree.crash(), plain.crash());
                }
                break;
            case 6:
            case 7:
                due("rise()", tree.rise(), plain.rise());
                break;
            case 8:
                if (dice.nextInt(4) == 0) {
                    int h = small(2);
                    due("bend(" + h + ")", tree.bend(h), plain.bend(h));
                }
                break;
            default:
                diskLook();
        }
    }

    private void diskLook() {
        due("free()", tree.free(), plain.free());
        for (int h = -1; h <= 2; h++) {
            for (int what = -1; what <= 4; what++) {
                due("disk(" + h + ", " + what + ")", tree.disk(h, what), plain.disk(h, what));
            }
        }
        for (int what = -1; what <= 4; what++) {
            due("writes(" + what + ")", tree.writes(what), plain.writes(what));
            due("number(" + what + ")", tree.number(what), plain.number(what));
        }
        int k = small(12);
        due("pictured(" + k + ")", tree.pictured(k), plain.pictured(k));
        int picture = 1 + small(9);
        for (int turn = 0; turn < 4; turn++) {
            long key = key();
            String call = "look(" + picture + ", " + key + ")";
            due(call, tree.look(picture, key), plain.look(picture, key));
        }
    }
}
