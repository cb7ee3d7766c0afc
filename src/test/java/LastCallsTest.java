import java.util.Random;

/**
 * "An object is used for at most 512 calls after it has been made": the last of them answer as all
 * others do. What later calls answer is free, but rule 7 of LANGUAGE.md holds for them, too.
 */
public final class LastCallsTest {
    private static final Checks CHECKS = new Checks();
    private static final int CALLS = 512;
    private static final long[] KEYS = {
        Long.MIN_VALUE, Long.MIN_VALUE + 1, -1000, -1, 0, 1, 7, 8, 9, 50, 1000, Long.MAX_VALUE - 1,
        Long.MAX_VALUE,
    };
    private static final int[] NUMBERS = {
        Integer.MIN_VALUE, -1, 0, 1, 2, 3, 4, 5, 8, 9, 12, 13, 20, 21, 40, 41, 999, 1000, 10000,
        10001, Integer.MAX_VALUE,
    };

    public static void main(String[] args) {
        putsAlone();
        otherWritesAlone();
        theLastCallTellsAll();
        disksAlone();
        downAndUp();
        for (int seed = 0; seed < 60; seed++) {
            anyCalls(new Random(seed), seed % 3 == 0 ? 4000 : CALLS);
        }
        CHECKS.end();
    }

    private static long key(int order, int i) {
        switch (order) {
            case 0:
                return i;
            case 1:
                return -i;
            case 2:
                return i * 37L % 521;
            default:
                return i * 0x9E3779B97F4A7C15L;
        }
    }

    private static void putsAlone() {
        for (int order = 0; order < 4; order++) {
            LetterTree x = new LetterTree();
            for (int i = 1; i <= CALLS; i++) {
                CHECKS.due("put " + i, x.put(key(order, i)), 0);
            }
        }
    }

    private static void otherWritesAlone() {
        LetterTree appended = new LetterTree();
        LetterTree dropped = new LetterTree();
        LetterTree swept = new LetterTree();
        LetterTree swapped = new LetterTree();
        swapped.put(1);
        for (int i = 1; i < CALLS; i++) {
            CHECKS.due("append " + i, appended.append(i), 0);
            CHECKS.due("drop " + i, dropped.drop(i), 0);
            CHECKS.due("sweep " + i, swept.sweep(-i, i), 0);
            CHECKS.due("swap " + i, swapped.swap(1, 0), 1);
        }
        CHECKS.due("appended", appended.number(0), CALLS - 1);
        CHECKS.due("dropped", dropped.number(0), CALLS - 1);
        CHECKS.due("swept", swept.number(0), CALLS - 1);
    }

    private static LetterTree with511Keys(int order) {
        LetterTree x = new LetterTree();
        for (int i = 1; i < CALLS; i++) {
            x.put(key(order, i));
        }
        return x;
    }

    private static PlainStore plainWith511Keys(int order) {
        PlainStore plain = new PlainStore();
        for (int i = 1; i < CALLS; i++) {
            plain.put(key(order, i));
        }
        return plain;
    }

    private static void theLastCallTellsAll() {
        for (int order = 0; order < 4; order++) {
            CHECKS.due("count", with511Keys(order).count(), CALLS - 1);
            CHECKS.due("number", with511Keys(order).number(0), CALLS - 1);
            CHECKS.due("put", with511Keys(order).put(0), 0);
            CHECKS.due("sweep", with511Keys(order).sweep(Long.MIN_VALUE, Long.MAX_VALUE), CALLS - 1);
            PlainStore plain = plainWith511Keys(order);
            CHECKS.due("pages", with511Keys(order).pages(), plain.pages());
            CHECKS.due("height", with511Keys(order).height(), plain.height());
            CHECKS.due("letters", with511Keys(order).letters(), plain.letters());
            CHECKS.due("met", with511Keys(order).met(key(order, 500)), plain.met(key(order, 500)));
            CHECKS.due("sync", with511Keys(order).sync(), plain.pages() + 1);
            CHECKS.due("free", with511Keys(order).free(), 1000);
            CHECKS.due("sink", with511Keys(order).sink(), plain.sink());
            CHECKS.due("settle", with511Keys(order).settle(), plainWith511Keys(order).settle());
        }
    }

    private static void disksAlone() {
        LetterTree x = new LetterTree();
        for (int i = 1; i <= CALLS; i++) {
            CHECKS.due("sync " + i, x.sync(), i == 1 ? 2 : 1);
        }
        LetterTree y = new LetterTree();
        for (int i = 1; i <= CALLS / 2; i++) {
            CHECKS.due("picture " + i, y.picture(), i);
            CHECKS.due("release " + i, y.release(i), 0);
        }
    }

    private static void downAndUp() {
        LetterTree x = new LetterTree();
        x.put(1);
        x.sync();
        for (int i = 0; i < 85; i++) {
            CHECKS.due("crash", x.crash(), 0);
            CHECKS.due("rise", x.rise(), i + 1);
            CHECKS.due("put", x.put(i + 2), 0);
            CHECKS.due("count", x.count(), i + 2);
            x.settle();
            CHECKS.holds("sync", x.sync() > 1);
        }
    }

    /** No call throws or fails to end, and none answers below FELL. */
    private static void anyCalls(Random dice, int calls) {
        LetterTree x = new LetterTree();
        for (int i = 0; i < calls; i++) {
            int kind = dice.nextInt(44);
            long answer = kind < 22 ? storeCall(x, kind, dice) : diskCall(x, kind, dice);
            CHECKS.holds("call " + kind + " answers " + answer, answer >= LetterTree.FELL);
        }
    }

    private static long key(Random dice) {
        return dice.nextInt(3) == 0 ? KEYS[dice.nextInt(KEYS.length)] : dice.nextInt(2000) - 1000;
    }

    private static int number(Random dice) {
        return NUMBERS[dice.nextInt(NUMBERS.length)];
    }

    private static long storeCall(LetterTree x, int kind, Random dice) {
        switch (kind) {
            case 0:
                return x.feed(dice.nextLong(), number(dice));
            case 1:
                return x.cut(number(dice));
            case 2:
                return x.byteAt(number(dice));
            case 3:
                return x.append(key(dice));
            case 4:
                return x.swap(key(dice), number(dice));
            case 5:
                return x.drop(key(dice));
            case 6:
                return x.sweep(key(dice), key(dice));
            case 7:
                return x.get(key(dice));
            case 8:
                return x.has(key(dice));
            case 9:
                return x.next(key(dice));
            case 10:
                return x.prior(key(dice));
            case 11:
                return x.found() == 0 ? 0 : 1;
            case 12:
                return x.count();
            default:
                return x.put(key(dice));
        }
    }

    private static long diskCall(LetterTree x, int kind, Random dice) {
        switch (kind) {
            case 22:
                return x.sink();
            case 23:
                return x.settle();
            case 24:
                return x.pages() + x.height() + x.letters() < 0 ? 0 : 1;
            case 25:
                return x.page(number(dice), number(dice));
            case 26:
                return x.border(number(dice), number(dice));
            case 27:
                return x.letter(number(dice), number(dice), number(dice));
            case 28:
                return x.met(key(dice));
            case 29:
                return x.sync();
            case 30:
                return x.picture();
            case 31:
                return x.look(number(dice), key(dice));
            case 32:
                return x.release(number(dice));
            case 33:
                return x.pictured(number(dice));
            case 34:
                return x.free();
            case 35:
                return x.fall(number(dice));
            case 36:
                return dice.nextInt(4) == 0 ? x.crash() : 0;
            case 37:
                return x.disk(number(dice), number(dice));
            case 38:
                return dice.nextInt(8) == 0 ? x.bend(number(dice)) : 0;
            case 39:
                return x.writes(number(dice));
            case 40:
                return x.number(number(dice));
            default:
                return x.rise();
        }
    }
}
