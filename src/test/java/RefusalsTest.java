import java.util.List;
import java.util.function.Function;
import java.util.function.Supplier;
import java.util.function.ToLongFunction;
import java.util.function.UnaryOperator;

/**
 * Section 4 of the terms: which refusal is told, and that a refused call changes nothing. Each call
 * is done on one of two objects that were made alike; all that both tell must be the same then.
 */
public final class RefusalsTest {
    private static final Checks CHECKS = new Checks();
    private static final int NONE = LetterTree.NONE, BAD = LetterTree.BAD, FULL = LetterTree.FULL;
    private static final int DOWN = LetterTree.DOWN;
    private static final long LEAST = Long.MIN_VALUE, MOST = Long.MAX_VALUE;

    private record Call(String name, long answer, ToLongFunction<LetterTree> act) {
    }

    private record Start(String name, Supplier<LetterTree> make) {
    }

    public static void main(String[] args) {
        for (Start start : upStarts()) {
            refused(start, refusedWhenUp());
            refused(start, finding0());
        }
        refused(new Start("21 bytes", RefusalsTest::tapeOf21), refusedWith21());
        refused(new Start("39 bytes", RefusalsTest::tapeOf39), refusedWith39());
        refused(new Start("12 pictures", RefusalsTest::twelvePictures), refusedWith12());
        for (Start start : downStarts()) {
            refused(start, refusedWhenDown());
            refused(start, refusedDownOrNot());
        }
        answeredWhenDown();
        CHECKS.end();
    }

    private static void refused(Start start, List<Call> calls) {
        for (Call call : calls) {
            leavesAll(start, call, Seen::now);
            leavesAll(start, call, Seen::risen);
            leavesAll(start, call, Seen::risenFromTheOther);
        }
    }

    private static void leavesAll(Start start, Call call, Function<LetterTree, String> see) {
        LetterTree asked = start.make.get();
        LetterTree left = start.make.get();
        String name = start.name + ": " + call.name;
        CHECKS.due(name, call.act.applyAsLong(asked), call.answer);
        CHECKS.holds(name + " changes nothing", see.apply(asked).equals(see.apply(left)));
    }

    // ---- what the calls are done on

    private static LetterTree rich() {
        LetterTree x = Grown.threeLevels();
        x.feed(0x0102, 2);
        x.put(11);
        x.picture();
        x.sweep(49, 60);
        x.drop(303);
        x.put(LEAST);
        x.picture();
        x.release(1);
        x.feed(5, 1);
        x.append(11);
        x.next(12);
        Grown.feed(x, 7, 3);
        return x;
    }

    private static LetterTree rowOf3() {
        LetterTree x = new LetterTree();
        Grown.feed(x, 1, 3);
        x.put(11);
        x.prior(11);
        x.sync();
        Grown.feed(x, 7, 3);
        return x;
    }

    private static LetterTree risen() {
        LetterTree x = rich();
        x.fall(3);
        x.sync();
        x.rise();
        return x;
    }

    private static LetterTree then(LetterTree x, UnaryOperator<LetterTree> more) {
        return more.apply(x);
    }

    private static LetterTree fallDue(LetterTree x) {
        x.fall(4);
        return x;
    }

    private static LetterTree crashed(LetterTree x) {
        x.crash();
        return x;
    }

    private static LetterTree fallen(LetterTree x) {
        x.put(0);
        Grown.feed(x, 1, 3);
        x.fall(1);
        x.sync();
        return x;
    }

    private static LetterTree headless(LetterTree x) {
        x.bend(0);
        x.bend(1);
        return x;
    }

    private static List<Start> upStarts() {
        return List.of(
                new Start("new", LetterTree::new),
                new Start("a leaf", RefusalsTest::rowOf3),
                new Start("rich", RefusalsTest::rich),
                new Start("rich, fall due", () -> fallDue(rich())),
                new Start("rich, no heads", () -> headless(rich())),
                new Start("risen", RefusalsTest::risen));
    }

    private static List<Start> downStarts() {
        return List.of(
                new Start("new, DOWN", () -> crashed(new LetterTree())),
                new Start("rich, DOWN", () -> crashed(rich())),
                new Start("rich, DOWN, fall due", () -> crashed(fallDue(rich()))),
                new Start("rich, DOWN, no heads", () -> headless(crashed(rich()))),
                new Start("21 bytes, DOWN", () -> crashed(tapeOf21())),
                new Start("fallen", () -> fallen(rich())));
    }

    private static LetterTree tapeOf21() {
        return then(Grown.twoLeaves(), x -> {
            x.sync();
            x.put(0);
            Grown.feed(x, 1, 21);
            return x;
        });
    }

    private static LetterTree tapeOf39() {
        return then(tapeOf21(), x -> {
            Grown.feed(x, 1, 18);
            return x;
        });
    }

    private static LetterTree twelvePictures() {
        return then(Grown.twoLeaves(), x -> {
            for (int i = 0; i < 13; i++) {
                x.put(i);
                x.picture();
            }
            x.put(99);
            x.fall(5);
            return x;
        });
    }

    // ---- the calls

    private static List<Call> refusedWhenUp() {
        return List.of(
                new Call("feed 0", BAD, x -> x.feed(-1, 0)),
                new Call("feed 9", BAD, x -> x.feed(-1, 9)),
                new Call("cut -1", BAD, x -> x.cut(-1)),
                new Call("cut 4", BAD, x -> x.cut(4)),
                new Call("byteAt 3", NONE, x -> x.byteAt(3)),
                new Call("swap n -1", BAD, x -> x.swap(11, -1)),
                new Call("swap n 4", BAD, x -> x.swap(11, 4)),
                new Call("swap n 21", BAD, x -> x.swap(11, 21)),
                new Call("sweep 12 11", BAD, x -> x.sweep(12, 11)),
                new Call("sweep MOST LEAST", BAD, x -> x.sweep(MOST, LEAST)),
                new Call("get of none", NONE, x -> x.get(12345)),
                new Call("page -1", NONE, x -> x.page(-1, 0)),
                new Call("page what 4", NONE, x -> x.page(0, 4)),
                new Call("page behind all", NONE, x -> x.page(x.pages(), 0)),
                new Call("border 0", NONE, x -> x.border(0, 0)),
                new Call("border 6", NONE, x -> x.border(0, 6)),
                new Call("letter -1", NONE, x -> x.letter(0, -1, 0)),
                new Call("letter 8", NONE, x -> x.letter(0, 8, 0)),
                new Call("letter what 2", NONE, x -> x.letter(0, 0, 2)),
                new Call("look 0", BAD, x -> x.look(0, 11)),
                new Call("look 9", BAD, x -> x.look(9, 11)),
                new Call("release 0", NONE, x -> x.release(0)),
                new Call("release 9", NONE, x -> x.release(9)),
                new Call("pictured -1", NONE, x -> x.pictured(-1)),
                new Call("pictured 9", NONE, x -> x.pictured(9)),
                new Call("fall -1", BAD, x -> x.fall(-1)),
                new Call("fall 10001", BAD, x -> x.fall(10001)),
                new Call("rise", BAD, LetterTree::rise),
                new Call("disk 2", NONE, x -> x.disk(2, 0)),
                new Call("disk what 4", NONE, x -> x.disk(1, 4)),
                new Call("bend -1", NONE, x -> x.bend(-1)),
                new Call("bend 2", NONE, x -> x.bend(2)),
                new Call("writes 4", NONE, x -> x.writes(4)),
                new Call("number 2", NONE, x -> x.number(2)));
    }

    /** Not refused, but nothing is found or done. */
    private static List<Call> finding0() {
        return List.of(
                new Call("has", 0, x -> x.has(12345)),
                new Call("next", 0, x -> x.next(MOST)),
                new Call("met", 0, x -> x.met(12345)));
    }

    private static List<Call> refusedWith21() {
        return List.of(
                new Call("put", BAD, x -> x.put(10)),
                new Call("put of none", BAD, x -> x.put(11)),
                new Call("append", BAD, x -> x.append(10)),
                new Call("append to none", BAD, x -> x.append(11)),
                new Call("swap 21 others", BAD, x -> x.swap(10, 0)),
                new Call("swap n 21", BAD, x -> x.swap(10, 21)),
                new Call("cut 22", BAD, x -> x.cut(22)));
    }

    private static List<Call> refusedWith39() {
        return List.of(
                new Call("feed 2", BAD, x -> x.feed(-1, 2)),
                new Call("feed 8", BAD, x -> x.feed(-1, 8)),
                new Call("put", BAD, x -> x.put(10)),
                new Call("append", BAD, x -> x.append(10)),
                new Call("swap n 18", BAD, x -> x.swap(10, 18)),
                new Call("cut 40", BAD, x -> x.cut(40)));
    }

    private static List<Call> refusedWith12() {
        return List.of(
                new Call("picture", FULL, LetterTree::picture),
                new Call("look 13", BAD, x -> x.look(13, 1)),
                new Call("release 13", NONE, x -> x.release(13)),
                new Call("pictured 12", NONE, x -> x.pictured(12)));
    }

    /** "DOWN the store is DOWN (all acts but ..)", also if a number or THE TAPE is not as told. */
    private static List<Call> refusedWhenDown() {
        return List.of(
                new Call("put", DOWN, x -> x.put(11)),
                new Call("append", DOWN, x -> x.append(11)),
                new Call("swap", DOWN, x -> x.swap(11, 0)),
                new Call("swap n -1", DOWN, x -> x.swap(11, -1)),
                new Call("drop", DOWN, x -> x.drop(11)),
                new Call("sweep", DOWN, x -> x.sweep(LEAST, MOST)),
                new Call("sweep 12 11", DOWN, x -> x.sweep(12, 11)),
                new Call("get", DOWN, x -> x.get(11)),
                new Call("has", DOWN, x -> x.has(11)),
                new Call("next", DOWN, x -> x.next(LEAST)),
                new Call("prior", DOWN, x -> x.prior(MOST)),
                new Call("count", DOWN, LetterTree::count),
                new Call("sink", DOWN, LetterTree::sink),
                new Call("settle", DOWN, LetterTree::settle),
                new Call("pages", DOWN, LetterTree::pages),
                new Call("height", DOWN, LetterTree::height),
                new Call("letters", DOWN, LetterTree::letters),
                new Call("page", DOWN, x -> x.page(0, 0)),
                new Call("page -1 what 4", DOWN, x -> x.page(-1, 4)),
                new Call("border", DOWN, x -> x.border(0, 1)),
                new Call("border 0", DOWN, x -> x.border(0, 0)),
                new Call("letter", DOWN, x -> x.letter(0, 0, 0)),
                new Call("letter what 2", DOWN, x -> x.letter(0, 0, 2)),
                new Call("met", DOWN, x -> x.met(11)),
                new Call("sync", DOWN, LetterTree::sync),
                new Call("picture", DOWN, LetterTree::picture),
                new Call("look", DOWN, x -> x.look(2, 11)),
                new Call("look 9", DOWN, x -> x.look(9, 11)),
                new Call("release", DOWN, x -> x.release(2)),
                new Call("release 9", DOWN, x -> x.release(9)),
                new Call("pictured", DOWN, x -> x.pictured(0)),
                new Call("pictured -1", DOWN, x -> x.pictured(-1)),
                new Call("free", DOWN, LetterTree::free),
                new Call("crash", DOWN, LetterTree::crash),
                new Call("number", DOWN, x -> x.number(0)),
                new Call("number 2", DOWN, x -> x.number(2)));
    }

    private static List<Call> refusedDownOrNot() {
        return List.of(
                new Call("feed 0", BAD, x -> x.feed(-1, 0)),
                new Call("feed 9", BAD, x -> x.feed(-1, 9)),
                new Call("cut -1", BAD, x -> x.cut(-1)),
                new Call("cut 22", BAD, x -> x.cut(22)),
                new Call("byteAt 21", NONE, x -> x.byteAt(21)),
                new Call("fall -1", BAD, x -> x.fall(-1)),
                new Call("fall 10001", BAD, x -> x.fall(10001)),
                new Call("disk 2", NONE, x -> x.disk(2, 0)),
                new Call("disk what -1", NONE, x -> x.disk(0, -1)),
                new Call("bend 2", NONE, x -> x.bend(2)),
                new Call("writes 4", NONE, x -> x.writes(4)));
    }

    /** "all acts but rise, fall, feed, cut, byteAt, disk, bend, found, writes" */
    private static void answeredWhenDown() {
        LetterTree x = rich();
        x.crash();
        CHECKS.due("byteAt", x.byteAt(2), 9);
        CHECKS.due("feed", x.feed(10, 1), 4);
        CHECKS.due("byteAt", x.byteAt(3), 10);
        CHECKS.due("cut", x.cut(1), 1);
        CHECKS.due("found", x.found(), 12);
        CHECKS.due("fall", x.fall(2), 2);
        CHECKS.due("fall 0", x.fall(0), 0);
        CHECKS.due("disk", x.disk(0, 0), 2);
        CHECKS.due("writes", x.writes(2), 2);
        CHECKS.due("bend", x.bend(0), 1);
        CHECKS.due("rise", x.rise(), 1);
        CHECKS.due("the tape is there", x.byteAt(0), 7);
        CHECKS.due("and it is taken", x.put(5), 0);
        CHECKS.due("a row of it", x.get(5), 1);
    }
}
