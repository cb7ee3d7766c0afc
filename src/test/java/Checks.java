/** Counts the answers that are not the ones that are due. */
final class Checks {
    private int wrong;
    private int all;

    void due(String call, long got, long want) {
        all++;
        if (got != want) {
            wrong++;
            if (wrong <= 20) {
                System.out.println(call + " answered " + got + ", due is " + want);
            }
        }
    }

    void holds(String what, boolean answer) {
        due(what, answer ? 1 : 0, 1);
    }

    boolean anyWrong() {
        return wrong > 0;
    }

    void end() {
        System.out.println(all + " answers, " + wrong + " not as due");
        if (wrong > 0 || all == 0) {
            System.exit(1);
        }
    }
}
