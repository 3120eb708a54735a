/** The boundary cases of slots and counts: promises 25 to 27. */
final class SlotBoundaries {
    private static final String EIGHT = "A;A;A;A;A;A;A;A";
    private static final String LARGEST = "A,A,A,A;A,A,A,A;A,A,A,A;A,A,A,A;A,A,A,A;A,A,A,A;A,A,A,A;A,A,A,A";

    private SlotBoundaries() {
    }

    static void all() {
        keep();
        again();
        againErrors();
        count();
        countsAtTheirLimits();
    }

    private static void keep() {
        Sentence place = Sentence.of(25, "Keeps the paper in a slot, in place of what it keeps.");
        place.on("AB1r05;A").due("keep(0) = 2; keep(1) = 2; cut(0, 0) = 1; keep(0) = 1; again(1) = 2").prints(0, "AB1r05;A").due("again(0) = 1").prints(0, "A");
        place.on(LARGEST).due("keep(1) = 8; cut(7, 0) = 7; again(1) = 8").prints(0, LARGEST);
        place.fresh().due("keep(0) = 0").text("A").due("put(0, 0) = 1; again(0) = 0; count(1) = 0");
        Sentence.of(25, "`slot`: the slot, 0 or 1").on("A").due("keep(-1) = -1; keep(0) = 1; keep(1) = 1; keep(2) = -1");
        Sentence notes = Sentence.of(25, "Returns the number of notes;");
        notes.fresh().due("keep(0) = 0; keep(1) = 0");
        notes.on(EIGHT).due("keep(0) = 8; cut(0, 0) = 7; keep(0) = 7; keep(1) = 7");
        Sentence.of(25, "UNKNOWN if there is no such slot.").on("A").due("keep(-1) = -1; keep(2) = -1; keep(2147483647) = -1; keep(-2147483648) = -1; again(0) = -3;"
            + "again(1) = -3; keep(0) = 1; keep(1) = 1");
    }

    private static void again() {
        Sentence kept = Sentence.of(26, "Makes the paper as it is kept in a slot.");
        kept.on("AB1r05@06;a0A,i").due("keep(1) = 2; move(0, 1, 1) = 2; cut(0, 1) = 1; again(1) = 2; count(4) = 0; found(1, 1, 0) = 0; share(0, true) = 2; share(1, true) = 1")
            .prints(0, "AB1r05@06;a0A,i");
        kept.on("A").due("keep(0) = 1").text("").due("cut(0, 0) = 0; again(0) = 1").prints(0, "A");
        Sentence.of(26, "The slot keeps it.").on("AB1r05;A").due("keep(0) = 2; again(0) = 2; cut(0, 0) = 1; again(0) = 2; respell(1, 0, 1) = 0; again(0) = 2")
            .prints(0, "AB1r05;A");
        Sentence edits = Sentence.of(26, "No edit can be undone then.");
        edits.on("AB1r05;A").due("keep(0) = 2; cut(0, 0) = 1; count(6) = 1; again(0) = 2; count(6) = 0; undo() = -3; cut(1, 0) = 1; undo() = 0; undo() = -3")
            .prints(0, "AB1r05;A");
        Run full = edits.on("A");
        full.due("keep(1) = 1");
        for (int i = 0; i < 15; i++) full.due("move(0, 0, 0) = 1");
        full.due("count(6) = 14; again(1) = 1; count(6) = 0; undo() = -3");
        Sentence.of(26, "`slot`: the slot, 0 or 1").on("A").due("keep(0) = 1; keep(1) = 1; again(-1) = -1; again(0) = 1; again(1) = 1; again(2) = -1");
        Sentence notes = Sentence.of(26, "Returns the number of notes;");
        notes.fresh().due("keep(0) = 0; again(0) = 0");
        notes.on(EIGHT).due("keep(0) = 8; cut(0, 0) = 7; keep(1) = 7; again(0) = 8; again(1) = 7");
    }

    private static void againErrors() {
        Sentence.of(26, "UNKNOWN if there is no such slot;").on("A").due("keep(0) = 1; keep(1) = 1; again(-1) = -1; again(2) = -1; again(2147483647) = -1;"
            + "again(-2147483648) = -1; again(0) = 1; again(1) = 1");
        Sentence state = Sentence.of(26, "STATE if it keeps nothing.");
        state.fresh().due("again(0) = -3; again(1) = -3; keep(1) = 0; again(0) = -3; again(1) = 0");
        state.on("A").due("again(0) = -3; keep(0) = 1; again(1) = -3; again(0) = 1; paper() = 1; again(0) = -3; again(1) = -3; keep(1) = 1; again(1) = 1");
    }

    private static void count() {
        Sentence what = Sentence.of(27, "`what`: 0 for the length of the text, 1 for the number of notes, 2 for the number of references, 3 for the number of cases, 4 for the"
            + " number of dead references, 5 for the number of cases that clash, 6 for the number of edits that can be undone, 7 for the number of"
            + " observations");
        what.on("AB1r05,AC1r05;A,i,B;CD2s10,DC3r03=2s10;i;a9A").due("count(0) = 44; count(1) = 5; count(2) = 9; count(3) = 2; count(4) = 3; count(5) = 2; count(6) = 0;"
            + "count(7) = 0; see(0, 0, 0) = 1; cut(4, 0) = 4; count(0) = 44; count(1) = 4; count(2) = 8; count(4) = 2; count(6) = 1; count(7) = 1; wipe() = 44;"
            + "count(0) = 0; cut(0, 0) = 3; count(3) = 1; count(4) = 4; count(5) = 1; count(6) = 2; undo() = 1; count(3) = 2");
        Sentence.of(27, "OUTSIDE if what is not 0 to 7.").on("A").due("count(-1) = -2; count(0) = 1; count(7) = 0; count(8) = -2; count(2147483647) = -2;"
            + "count(-2147483648) = -2");
    }

    private static void countsAtTheirLimits() {
        Sentence least = Sentence.of(27, "Returns a count.");
        least.fresh().due("count(0) = 0; count(1) = 0; count(2) = 0; count(3) = 0; count(4) = 0; count(5) = 0; count(6) = 0; count(7) = 0");
        Sentence most = Sentence.of(27, "Returns the count;");
        most.on(LARGEST).due("count(1) = 8; count(2) = 32; count(3) = 0; count(4) = 32; count(5) = 0");
        Run cases = most.fresh();
        for (int note = 0; note < 8; note++) {
            StringBuilder text = new StringBuilder();
            for (int page = 1; page <= 4; page++) text.append(page > 1 ? "," : "").append("AB").append(note + 1).append("r0").append(page);
            cases.text(text.toString()).due("put(" + note + ", 0) = " + (note + 1));
        }
        cases.due("count(2) = 32; count(3) = 32; count(4) = 0; count(5) = 0; count(6) = 8");
        most.on("AB1r05,BA1r05,AB1r06,BA1r06;AB1r07,BA1r07,AB1r08,BA1r08;AB2r07,BA2r07,AB2r08,BA2r08").due("count(3) = 6; count(5) = 6");
        Run full = most.on("A");
        for (int i = 0; i < 15; i++) full.due("move(0, 0, 0) = 1");
        for (int i = 0; i < 7; i++) full.due("see(0, 0, 0) = " + (i < 6 ? i + 1 : -4));
        for (int i = 2; i <= 121; i++) full.due("write(0) = " + (i <= 120 ? i : -4));
        full.due("count(0) = 120; count(6) = 14; count(7) = 6");
    }
}
