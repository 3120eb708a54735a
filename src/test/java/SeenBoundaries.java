/** The boundary cases of observations: the description's part on them, and promises 18 to 20. */
final class SeenBoundaries {
    /** Case 0 is AB, 1r05 and 2s10, found by notes 0 and 2; 1 is BA, 9s99, note 1; 2 is AC, 3r03, notes 1 and 3. */
    private static final String THREE = "AB1r05=2s10;BA9s99,AC3r03;AB1r05;AC3r03";

    private SeenBoundaries() {
    }

    static void all() {
        stored();
        names();
        notes();
        reports();
        otherNumbers();
        possible();
        see();
        seeErrors();
        unsee();
        which();
    }

    private static void stored() {
        Sentence.of(18, "At most 6 observations of an unknown case are stored.").on(THREE).due("see(0, 0, 1) = 1; see(0, 0, 1) = 2; see(0, 0, 1) = 3;"
            + "see(0, 0, 1) = 4; see(0, 0, 1) = 5; which(0) = 2; see(1, 2, 1) = 6; which(0) = 1; which(1) = 2; see(0, 5, 1) = -4; which(0) = 1; count(7) = 6");
    }

    /** For the only case of a paper, a statement is true with these numbers and false with all others from 0 to 9. */
    private static void trueOnly(Sentence sentence, String text, int what, String numbers) {
        for (int v = 0; v <= 9; v++) {
            int truth = numbers.indexOf('0' + v) >= 0 ? 1 : 0;
            sentence.on(text).due("count(3) = 1; see(" + what + ", " + v + ", 1) = 1; which(0) = " + truth + "; unsee() = 1; see(" + what + ", " + v + ", 0) = 1;"
                + "which(0) = " + (1 - truth));
        }
    }

    private static void names() {
        Sentence begins = Sentence.of(20, "An observation says whether (1) or not (0) one of these statements is true: what 0, its name begins with letter v;");
        Sentence ends = Sentence.of(20, "1, its name ends with letter v (0 for A to 5 for F);");
        for (int first = 0; first <= 5; first++) {
            int second = (first + 1) % 6;
            String text = "" + (char) ('A' + first) + (char) ('A' + second) + "1r05";
            trueOnly(begins, text, 0, "" + first);
            trueOnly(ends, text, 1, "" + second);
        }
        trueOnly(begins, "AF1r05;FA1r05", 0, "0");
        trueOnly(ends, "AF1r05;FA1r05", 1, "5");
    }

    private static void notes() {
        Sentence note = Sentence.of(20, "2, it is found by a reference of note v;");
        trueOnly(note, "AB1r05", 2, "0");
        trueOnly(note, "B;AB1r05;B;A", 2, "13");
        trueOnly(note, "B;B;B;B;B;B;B;AB1r05", 2, "7");
        trueOnly(note, "AB1r05;i;i;i;i;i;i;i", 2, "01234567");
        trueOnly(note, "AB1r05,B;i;B,A", 2, "02");
    }

    private static void reports() {
        Sentence volume = Sentence.of(20, "3, it has a report of volume v;");
        for (int v = 1; v <= 9; v++) trueOnly(volume, "AB" + v + "r01", 3, "" + v);
        trueOnly(volume, "AB1s99=9r99", 3, "19");
        trueOnly(volume, "AB1r05;CD1r05=7s07;EF7s07=3r01", 3, "173");
        Sentence series = Sentence.of(20, "4, it has a report of series v (0 for r, 1 for s).");
        trueOnly(series, "AB1r05", 4, "0");
        trueOnly(series, "AB9s99", 4, "1");
        trueOnly(series, "AB1r05=1s05", 4, "01");
        trueOnly(series, "AB1r05;CD2s10=1r05", 4, "01");
    }

    private static void otherNumbers() {
        Sentence other = Sentence.of(20, "With any other v such a statement is false.");
        String[] none = {"6789", "6789", "89", "0", "23456789"};
        for (int what = 0; what <= 4; what++) {
            for (char v : none[what].toCharArray()) {
                other.on("AF1r01=9s99,i,i,i;i;FA2r02,A;F,A;A;A;A;A,F").due("count(3) = 2; see(" + what + ", " + v + ", 1) = 1; which(0) = 0; which(1) = -9;"
                    + "unsee() = 1; see(" + what + ", " + v + ", 0) = 1; which(0) = 2; which(1) = 0");
            }
        }
    }

    private static void possible() {
        Sentence right = Sentence.of(20, "The possible cases are those for which all observations are right.");
        right.on(THREE).due("which(0) = 3; which(1) = 0; see(0, 0, 1) = 1; which(0) = 2; which(1) = 0; see(2, 0, 0) = 2; which(0) = 1; which(1) = 2;"
            + "see(3, 9, 0) = 3; which(0) = 1; see(4, 1, 0) = 4; which(0) = 1; see(1, 2, 1) = 5; which(0) = 1; see(1, 2, 0) = 6; which(0) = 0; which(1) = -9");
        right.on(THREE).due("see(0, 0, 0) = 1; which(0) = 1; which(1) = 1; cut(1, 0) = 3; which(0) = 0; undo() = 0; which(1) = 1");
    }

    private static void see() {
        Sentence.of(18, "Adds an observation.").on(THREE).due("see(0, 1, 1) = 1; which(0) = 1; which(1) = 1; see(0, 1, 1) = 2; which(0) = 1; see(0, 1, 0) = 3;"
            + "which(0) = 0");
        Sentence what = Sentence.of(18, "`what`: the statement, 0 to 4");
        what.on("AB1r05").due("see(-1, 0, 1) = -2; see(0, 0, 1) = 1; see(1, 1, 1) = 2; see(2, 0, 1) = 3; see(3, 1, 1) = 4; see(4, 0, 1) = 5; see(5, 0, 1) = -2;"
            + "which(0) = 1");
        Sentence.of(18, "`v`: its number, 0 to 9").on("AB9r05").due("see(3, -1, 0) = -2; see(3, 0, 0) = 1; see(3, 9, 1) = 2; see(3, 10, 0) = -2; which(0) = 1;"
            + "count(7) = 2");
        Sentence.of(18, "`was`: 1 if it is said to be true, 0 if it is said to be false").on("AB1r05").due("see(0, 0, -1) = -2; see(0, 0, 2) = -2; see(0, 0, 1) = 1;"
            + "which(0) = 1; unsee() = 1; see(0, 0, 0) = 1; which(0) = 0; unsee() = 1; see(0, 1, 0) = 1; which(0) = 1; see(0, 1, 1) = 2; which(0) = 0");
        Run many = Sentence.of(18, "Returns the number of observations;").fresh();
        for (int i = 1; i <= 6; i++) many.due("see(4, 9, 0) = " + i + "; count(7) = " + i);
        many.due("unsee() = 6; see(4, 9, 0) = 1");
    }

    private static void seeErrors() {
        Sentence.of(18, "OUTSIDE if an argument is out of range;").fresh().due("see(-1, 0, 0) = -2; see(5, 0, 0) = -2; see(0, -1, 0) = -2; see(0, 10, 0) = -2;"
            + "see(0, 0, -1) = -2; see(0, 0, 2) = -2; see(2147483647, 0, 0) = -2; see(-2147483648, 0, 0) = -2; see(0, 2147483647, 0) = -2;"
            + "see(0, -2147483648, 0) = -2; see(0, 0, 2147483647) = -2; see(0, 0, -2147483648) = -2; count(7) = 0; see(0, 0, 0) = 1; see(4, 9, 1) = 2");
        Sentence.of(18, "FULL if there are 6 observations.").fresh().due("see(0, 0, 0) = 1; see(0, 0, 0) = 2; see(0, 0, 0) = 3; see(0, 0, 0) = 4; see(0, 0, 0) = 5;"
            + "see(4, 9, 1) = 6; see(0, 0, 0) = -4; see(4, 9, 1) = -4; count(7) = 6; unsee() = 6; see(0, 0, 0) = 1");
    }

    private static void unsee() {
        Sentence.of(19, "Removes all observations.").on(THREE).due("see(0, 5, 1) = 1; see(0, 4, 1) = 2; which(0) = 0; unsee() = 2; which(0) = 3; count(7) = 0;"
            + "see(0, 1, 1) = 1; which(0) = 1; which(1) = 1");
        Sentence.of(19, "Returns the number of observations that there were.").fresh().due("unsee() = 0; see(0, 0, 0) = 1; unsee() = 1; unsee() = 0;"
            + "see(0, 0, 0) = 1; see(0, 0, 0) = 2; see(0, 0, 0) = 3; see(0, 0, 0) = 4; see(0, 0, 0) = 5; see(0, 0, 0) = 6; see(0, 0, 0) = -4; unsee() = 6; unsee() = 0");
    }

    private static void which() {
        Sentence.of(20, "Returns the possible cases according to the observations.").on(THREE).due("which(0) = 3; see(2, 1, 1) = 1; which(0) = 2; which(1) = 1;"
            + "see(0, 0, 1) = 2; which(0) = 1; which(1) = 2");
        Sentence.of(20, "`what`: 0 for their number, 1 for the lowest one").on(THREE).due("which(0) = 3; which(1) = 0; see(0, 1, 1) = 1; which(0) = 1; which(1) = 1;"
            + "unsee() = 1; see(2, 3, 1) = 1; which(0) = 1; which(1) = 2");
        Sentence none = Sentence.of(20, "for what 1 NONE if there is none;");
        none.fresh().due("which(1) = -9; which(0) = 0");
        none.on("A").due("which(1) = -9; see(0, 0, 0) = 1; which(1) = -9");
        none.on(THREE).due("see(0, 2, 1) = 1; which(1) = -9; which(0) = 0; unsee() = 1; which(1) = 0");
        Sentence.of(20, "OUTSIDE if what is not 0 or 1.").on(THREE).due("which(-1) = -2; which(0) = 3; which(1) = 0; which(2) = -2; which(2147483647) = -2;"
            + "which(-2147483648) = -2");
    }
}
