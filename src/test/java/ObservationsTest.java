/** Promises 18 to 20: see, unsee, which. */
public final class ObservationsTest {
    /** Case 0: AB, volumes 1 and 2, series r and s, found by notes 0 and 2; 1: BA, 9s, note 1; 2: AC, 3r, notes 1 and 3. */
    private static final String TEXT = "AB1r05=2s10;BA9s99,AC3r03;AB1r05;AC3r03";

    public static void main(String[] args) {
        see();
        unsee();
        which();
        statements();
        Run.end("ObservationsTest");
    }

    private static void see() {
        Run.fresh("promise 18, six observations").due("see(0, 0, 0) = 1; see(1, 9, 1) = 2; see(2, 9, 0) = 3; see(3, 0, 1) = 4; see(4, 9, 0) = 5;"
            + "see(4, 9, 0) = 6; see(0, 0, 0) = -4; see(4, 9, 1) = -4; see(5, 0, 0) = -2; see(0, 10, 0) = -2; see(0, 0, 2) = -2; count(7) = 6");
        Run.fresh("promise 18, out of range").due("see(-1, 0, 0) = -2; see(5, 0, 0) = -2; see(0, -1, 0) = -2; see(0, 10, 0) = -2; see(0, 0, -1) = -2;"
            + "see(0, 0, 2) = -2; see(2147483647, 0, 0) = -2; see(0, -2147483648, 0) = -2; see(0, 0, 2147483647) = -2; count(7) = 0");
    }

    private static void unsee() {
        Run.on("promise 19", TEXT).due("unsee() = 0; see(0, 5, 1) = 1; see(0, 4, 1) = 2; which(0) = 0; unsee() = 2; unsee() = 0; count(7) = 0;"
            + "which(0) = 3; see(0, 1, 1) = 1; which(0) = 1; which(1) = 1");
        Run.on("promise 19, all six", TEXT).due("see(0, 0, 1) = 1; see(0, 0, 1) = 2; see(0, 0, 1) = 3; see(0, 0, 1) = 4; see(0, 0, 1) = 5;"
            + "see(1, 2, 1) = 6; which(0) = 1; which(1) = 2; unsee() = 6; which(0) = 3; see(0, 1, 0) = 1; which(0) = 2");
    }

    private static void which() {
        Run.on("promise 20, without observations", TEXT).due("which(0) = 3; which(1) = 0; which(2) = -2; which(-1) = -2; which(2147483647) = -2");
        Run.on("promise 20, all observations must be right", TEXT).due("see(0, 0, 1) = 1; which(0) = 2; which(1) = 0; see(2, 1, 1) = 2;"
            + "which(0) = 1; which(1) = 2; see(3, 9, 1) = 3; which(0) = 0; which(1) = -9");
        Run.on("promise 20, the paper as it is then", TEXT).due("see(2, 3, 1) = 1; which(0) = 1; which(1) = 2; move(0, 3, 1) = 0; which(0) = 1;"
            + "which(1) = 2; aCase(2, 0) = 0; undo() = 0; cut(1, 0) = 3; which(0) = 0; which(1) = -9; undo() = 0; which(1) = 2");
        Run.on("promise 20, no case", "A").due("which(0) = 0; which(1) = -9; see(0, 0, 0) = 1; which(0) = 0");
    }

    /** Every statement with every number, said to be true and said to be false: the cases for which it is true, as a set. */
    private static void statements() {
        int[][] trueOf = {
            {5, 2, 0, 0, 0, 0, 0, 0, 0, 0},
            {2, 1, 4, 0, 0, 0, 0, 0, 0, 0},
            {1, 6, 1, 4, 0, 0, 0, 0, 0, 0},
            {0, 1, 1, 4, 0, 0, 0, 0, 0, 2},
            {5, 3, 0, 0, 0, 0, 0, 0, 0, 0}};
        for (int what = 0; what < trueOf.length; what++) {
            for (int v = 0; v < 10; v++) {
                for (int was = 0; was < 2; was++) {
                    int set = was == 1 ? trueOf[what][v] : 7 - trueOf[what][v];
                    Run run = Run.on("promise 20, statement " + what + ", number " + v + ", said to be " + was, TEXT);
                    run.due("see(" + what + ", " + v + ", " + was + ") = 1");
                    run.due("which(0) = " + Integer.bitCount(set));
                    run.due("which(1) = " + (set == 0 ? -9 : Integer.numberOfTrailingZeros(set)));
                }
            }
        }
        Run.on("promise 20, the first page of the last volume", "AB9r01").due("see(3, 9, 1) = 1; which(0) = 1; see(3, 8, 0) = 2; which(0) = 1;"
            + "see(4, 0, 1) = 3; which(0) = 1; see(4, 1, 1) = 4; which(0) = 0");
        Run.on("promise 20, the reports of all full references of a case count", "AB1r05;CD1r05=7s07").due("see(3, 7, 1) = 1; which(0) = 1; see(4, 1, 1) = 2;"
            + "which(0) = 1; see(0, 2, 1) = 3; which(0) = 0");
    }
}
