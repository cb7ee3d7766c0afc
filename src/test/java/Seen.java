/**
 * All that the calls tell of an object, as a text. It uses the object up: two objects are alike if
 * their texts are the same, and neither is asked again.
 */
final class Seen {
    private static final long[] KEYS = {Long.MIN_VALUE, -1, 0, 10, 11, 49, 50, 70, 303, Long.MAX_VALUE};
    private final LetterTree x;
    private final StringBuilder text = new StringBuilder();

    private Seen(LetterTree x) {
        this.x = x;
    }

    /** What is there now, and then which FALL is due. */
    static String now(LetterTree x) {
        Seen seen = new Seen(x);
        seen.tape();
        seen.disk();
        seen.store();
        seen.fallDue();
        return seen.text.toString();
    }

    /** What is there behind a crash and a rise from the HEAD of greatest GENERATION. */
    static String risen(LetterTree x) {
        x.crash();
        x.rise();
        return now(x);
    }

    /** The same without that HEAD. */
    static String risenFromTheOther(LetterTree x) {
        x.crash();
        x.bend(x.disk(0, 0) > x.disk(1, 0) ? 0 : 1);
        return risen(x);
    }

    private void line(String call, long answer) {
        text.append(call).append(' ').append(answer).append('\n');
    }

    private void tape() {
        for (int i = 0; i < 42; i++) {
            line("byteAt " + i, x.byteAt(i));
        }
        line("found", x.found());
    }

    private void disk() {
        for (int what = 0; what < 4; what++) {
            line("disk 0 " + what, x.disk(0, what));
            line("disk 1 " + what, x.disk(1, what));
            line("writes " + what, x.writes(what));
        }
    }

    private void store() {
        line("number", x.number(0));
        line("generation", x.number(1));
        line("count", x.count());
        line("free", x.free());
        line("height", x.height());
        line("letters", x.letters());
        for (int i = 0; i < x.pages(); i++) {
            page(i);
        }
        for (long key : KEYS) {
            line("met " + key, x.met(key));
        }
        map();
        for (int k = 0; x.pictured(k) >= 0; k++) {
            picture(x.pictured(k));
        }
    }

    private void page(int i) {
        for (int what = 0; what < 4; what++) {
            line("page " + i + " " + what, x.page(i, what));
        }
        for (int k = 1; x.border(i, k) == 1; k++) {
            line("border " + i + " " + k, x.found());
        }
        for (int k = 0; x.letter(i, k, 0) >= 0; k++) {
            line("letter " + i + " " + k, 1000 * x.letter(i, k, 0) + x.letter(i, k, 1));
        }
    }

    private void map() {
        long key = Long.MIN_VALUE;
        boolean more = x.next(key) == 1;
        while (more) {
            key = x.found();
            row("get " + key, x.get(key));
            more = key < Long.MAX_VALUE && x.next(key + 1) == 1;
        }
    }

    private void row(String call, int size) {
        line(call, size);
        for (int i = 0; i < size; i++) {
            line(call + " byte " + i, x.byteAt(i));
        }
    }

    private void picture(int number) {
        line("picture", number);
        for (long key : KEYS) {
            row("look " + number + " " + key, x.look(number, key));
        }
    }

    private void fallDue() {
        for (int turn = 0; turn < 12; turn++) {
            line("sync " + turn, x.sync());
        }
        line("rise", x.rise());
    }
}
