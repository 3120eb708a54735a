import java.util.function.Consumer;

/** The boundary cases of error codes: what they mean, their order, and that a refused call changes nothing. */
final class RefusalBoundaries {
    static final String ORDER = "Each return description lists the error codes in the order in which they are checked, and the first one that applies is"
        + " returned.";
    static final String NOTHING = "A method that returns an error code changes nothing.";
    private static final String NONE = "NONE (-9) is not an error code; it means that there is none, and it is returned only if no error code applies.";
    private static final String EIGHT = "A;A;A;A;A;A;A;A";

    private RefusalBoundaries() {
    }

    static void all() {
        codes();
        none();
        order();
        orderOfPut();
        nothingOfTexts();
        nothingOfEdits();
        nothingOfAnswers();
        nothingOfStores();
    }

    private static void codes() {
        Sentence unknown = Sentence.of(6, "The error codes are UNKNOWN (-1): there is no such note, reference, case, place of the table or slot;");
        unknown.holds(PointingNotes.UNKNOWN == -1);
        unknown.on("AB1r05").due("reference(1, 0, 0) = -1; reference(0, 1, 0) = -1; aCase(1, 0) = -1; table(1) = -1; keep(2) = -1; again(2) = -1; move(0, 1, 0) = -1;"
            + "share(1, true) = -1; cut(1, 0) = -1");
        Sentence outside = Sentence.of(2, "OUTSIDE (-2): another argument is out of range;");
        outside.holds(PointingNotes.OUTSIDE == -2);
        outside.on("AB1r05").due("write(256) = -2; reference(0, 0, 3) = -2; put(2, 0) = -2; cut(0, 2) = -2; print(0, -2) = -2; judge(5, 0) = -2; lost(11, true) = -2;"
            + "drawn(21) = -2; count(8) = -2");
        Sentence state = Sentence.of(11, "STATE (-3): the request is impossible in the present state;");
        state.holds(PointingNotes.STATE == -3);
        state.on("A").due("undo() = -3; again(0) = -3; respell(0, 0, 0) = -3; wipe() = 1; put(0, 0) = -3; write(120) = 1; paper() = -3");
        Sentence full = Sentence.of(7, "FULL (-4): there is no room.");
        full.holds(PointingNotes.FULL == -4);
        full.on(EIGHT).text("A").due("put(0, 0) = -4");
    }

    private static void none() {
        Sentence.of(6, NONE).holds(PointingNotes.NONE == -9);
        Sentence.of(6, NONE).on("A").due("reference(0, 0, 1) = -9; reference(0, 0, 2) = -9; reference(0, 1, 1) = -1; reference(1, 0, 2) = -1; reference(0, 0, 3) = -2");
        Sentence.of(12, NONE).on("A").due("found(0, 0, 0) = -9; found(0, 1, 0) = -1; found(1, 0, 0) = -1; found(0, 0, -1) = -2");
        Sentence.of(16, NONE).on("A").due("print(0, 1) = -9; print(2, 1) = -2; print(-1, 1) = -2; print(2, 2147483647) = -2; print(0, -2) = -2");
        Sentence.of(17, NONE).on("AB1r05").due("judge(1, 5000) = -9; judge(0, 5000) = -2; judge(5, 5000500050005000) = -2; judge(1, 50005000) = -2");
        Sentence.of(20, NONE).fresh().due("which(1) = -9; which(2) = -2; which(-1) = -2");
        Sentence.of(4, NONE).fresh().due("fault() = -9");
    }

    /** Calls to which two error codes fit. */
    private static void order() {
        Run full = Sentence.of(2, ORDER).fresh();
        for (int i = 1; i <= 120; i++) full.due("write(0) = " + i);
        full.due("write(-1) = -2; write(256) = -2; write(0) = -4; write(255) = -4");
        Sentence.of(6, ORDER).on("A").due("reference(1, 0, 3) = -1; reference(0, 1, 3) = -1; reference(-1, 0, -1) = -1; reference(0, -1, -1) = -1; reference(0, 0, 3) = -2");
        Sentence.of(8, ORDER).on("A").due("cut(1, 2) = -1; cut(-1, -1) = -1; cut(0, 2) = -2; cut(0, -1) = -2");
        Sentence.of(9, ORDER).on("A;A").due("move(2, 0, 2) = -1; move(0, 2, 2) = -1; move(-1, 0, -1) = -1; move(0, -1, -1) = -1; move(0, 1, 2) = -2; move(0, 1, -1) = -2");
        Sentence.of(10, ORDER).on("A").due("respell(1, 0, 2) = -1; respell(0, 1, 2) = -1; respell(-1, 0, -1) = -1; respell(0, -1, -1) = -1; respell(0, 0, 2) = -2;"
            + "respell(0, 0, -1) = -2; respell(0, 0, 0) = -3; respell(0, 0, 1) = -3; respell(0, 1, 0) = -1; respell(1, 0, 1) = -1");
        Sentence.of(12, ORDER).on("A").due("found(1, 0, 3) = -1; found(0, 1, 3) = -1; found(-1, 0, -1) = -1; found(0, -1, -1) = -1; found(0, 0, 3) = -2; found(0, 0, -1) = -2");
        Sentence.of(13, ORDER).on("AB1r05").due("aCase(1, 7) = -1; aCase(-1, -1) = -1; aCase(0, 7) = -2; aCase(0, -1) = -2");
        Sentence.of(15, ORDER).on("A").due("shorter(1, 0, 2) = -1; shorter(0, 1, 2) = -1; shorter(-1, 0, -1) = -1; shorter(0, -1, -1) = -1; shorter(0, 0, 2) = -2;"
            + "shorter(0, 0, -1) = -2");
        Run seen = Sentence.of(18, ORDER).fresh();
        for (int i = 1; i <= 6; i++) seen.due("see(0, 0, 0) = " + i);
        seen.due("see(5, 0, 0) = -2; see(-1, 0, 0) = -2; see(0, 10, 0) = -2; see(0, -1, 0) = -2; see(0, 0, 2) = -2; see(0, 0, -1) = -2; see(0, 0, 0) = -4");
        Sentence.of(26, ORDER).fresh().due("again(2) = -1; again(-1) = -1; again(0) = -3; again(1) = -3");
    }

    private static void orderOfPut() {
        Sentence put = Sentence.of(7, ORDER);
        for (String text : new String[] {"", "x", "A,", "A;A"}) {
            put.on(EIGHT).text(text).due("put(-1, 0) = -2; put(9, 0) = -2; put(0, -1) = -2; put(0, 2) = -2; put(8, 2) = -2; put(0, 0) = -3; put(8, 1) = -3");
            put.on("A").text(text).due("put(-1, 0) = -2; put(2, 0) = -2; put(0, 2) = -2; put(1, 0) = -3");
        }
        put.on(EIGHT).text("A").due("put(-1, 0) = -2; put(9, 0) = -2; put(0, -1) = -2; put(0, 2) = -2; put(0, 0) = -4; put(8, 1) = -4");
    }

    // ---- a refused call changes nothing

    /** A state in which everything holds something: text, paper, edits, slots, observations, seed. */
    private static void rich(Run run) {
        run.text("AB1r20;CD2s10;A@07,i;a0A").due("paper() = 4; keep(0) = 4; cut(3, 1) = 3; keep(1) = 3; move(0, 1, 0) = 0; see(0, 0, 1) = 1; see(3, 1, 1) = 2;"
            + "seed(77) = 0").text("B,i");
    }

    private static void richWithFault(Run run) {
        rich(run);
        run.text("B,AB1r00");
    }

    private static void richWithTwoNotes(Run run) {
        rich(run);
        run.text("B;i");
    }

    /** The text is a paper of 120 bytes, so that every byte of it can be asked for. */
    private static void fullText(Run run) {
        run.text("AB1r20;CD2s10").due("paper() = 2; keep(0) = 2; move(0, 1, 0) = 0; see(0, 0, 1) = 1; seed(77) = 0").text(TextBoundaries.LONGEST);
    }

    private static void fullPaper(Run run) {
        run.text(EIGHT).due("paper() = 8; keep(0) = 8; cut(7, 1) = 7; keep(1) = 7; see(0, 0, 1) = 1; seed(77) = 0").text("B,i").due("put(3, 0) = 8");
    }

    private static void nothingToUndo(Run run) {
        rich(run);
        run.due("undo() = 1; undo() = 0");
    }

    private static void nothingKept(Run run) {
        run.text("AB1r20;CD2s10;A@07,i;a0A").due("paper() = 4; cut(3, 1) = 3; move(0, 1, 0) = 0; see(0, 0, 1) = 1; seed(77) = 0; keep(1) = 3").text("B,i");
    }

    private static void fullOfObservations(Run run) {
        rich(run);
        run.due("see(2, 9, 0) = 3; see(2, 9, 0) = 4; see(2, 9, 0) = 5; see(2, 9, 0) = 6");
    }

    /** Two objects in the same state, one of which refuses calls then: afterwards nothing tells them apart. */
    private static void changesNothing(int promise, Consumer<Run> state, String refused) {
        Sentence nothing = Sentence.of(promise, NOTHING);
        Run touched = nothing.fresh();
        state.accept(touched);
        touched.due(refused);
        Run other = nothing.fresh();
        state.accept(other);
        String after = everything(touched);
        touched.check("all that can be asked after " + refused, after.equals(everything(other)) ? 1 : 0, 1);
    }

    /** All that calls can tell of an object; the object is used up by it. */
    private static String everything(Run run) {
        StringBuilder told = new StringBuilder();
        for (int what = 0; what <= 7; what++) told.append(run.answer("count(" + what + ")")).append(' ');
        told.append(printed(run)).append(run.answer("which(0)")).append(' ').append(run.answer("which(1)")).append(' ');
        for (int note = 0; note < 3; note++) told.append(run.answer("found(" + note + ", 0, 0)")).append(' ').append(run.answer("share(" + note + ", true)"));
        told.append(' ').append(run.answer("fault()")).append(' ').append(run.answer("seed(0)")).append(' ');
        for (int i = 0; i < 3; i++) told.append(run.answer("undo()")).append(printed(run));
        told.append(run.answer("again(0)")).append(printed(run)).append(run.answer("again(1)")).append(printed(run));
        told.append(run.answer("paper()")).append(printed(run)).append(run.answer("which(0)")).append(run.answer("wipe()"));
        return told.toString();
    }

    private static String printed(Run run) {
        StringBuilder text = new StringBuilder(" ");
        long length = run.answer("print(0, -1)");
        for (int place = 0; place < length; place++) text.append((char) run.answer("print(0, " + place + ")"));
        return text.append(' ').toString();
    }

    private static void nothingOfTexts() {
        changesNothing(2, RefusalBoundaries::rich, "write(-1) = -2; write(256) = -2; write(2147483647) = -2");
        changesNothing(2, RefusalBoundaries::fullText, "write(65) = -4; write(44) = -4; write(256) = -2");
        changesNothing(5, RefusalBoundaries::richWithFault, "paper() = -3; paper() = -3");
        changesNothing(6, RefusalBoundaries::rich, "reference(3, 0, 0) = -1; reference(0, 1, 0) = -1; reference(0, 0, 3) = -2; reference(0, 0, -1) = -2");
    }

    private static void nothingOfEdits() {
        changesNothing(7, RefusalBoundaries::rich, "put(-1, 0) = -2; put(4, 1) = -2; put(0, 2) = -2; put(0, -1) = -2");
        changesNothing(7, RefusalBoundaries::richWithFault, "put(0, 0) = -3; put(3, 1) = -3");
        changesNothing(7, RefusalBoundaries::richWithTwoNotes, "put(0, 0) = -3; put(3, 1) = -3");
        changesNothing(7, RefusalBoundaries::fullPaper, "put(0, 0) = -4; put(8, 1) = -4");
        changesNothing(8, RefusalBoundaries::rich, "cut(3, 0) = -1; cut(-1, 1) = -1; cut(0, 2) = -2; cut(2, -1) = -2");
        changesNothing(9, RefusalBoundaries::rich, "move(3, 0, 0) = -1; move(0, 3, 1) = -1; move(-1, 0, 1) = -1; move(0, 1, 2) = -2; move(1, 0, -1) = -2");
        changesNothing(10, RefusalBoundaries::rich, "respell(3, 0, 0) = -1; respell(0, 1, 1) = -1; respell(2, 0, 2) = -2; respell(2, 0, -1) = -2");
        changesNothing(10, RefusalBoundaries::fullPaper, "respell(0, 0, 0) = -3; respell(3, 1, 1) = -3");
        changesNothing(11, RefusalBoundaries::nothingToUndo, "undo() = -3; undo() = -3");
    }

    private static void nothingOfAnswers() {
        changesNothing(12, RefusalBoundaries::rich, "found(3, 0, 0) = -1; found(0, 1, 0) = -1; found(0, 0, 3) = -2; found(0, 0, -1) = -2");
        changesNothing(13, RefusalBoundaries::rich, "aCase(2, 0) = -1; aCase(-1, 0) = -1; aCase(0, 7) = -2; aCase(0, -1) = -2");
        changesNothing(14, RefusalBoundaries::rich, "table(2) = -1; table(-1) = -1");
        changesNothing(15, RefusalBoundaries::rich, "shorter(3, 0, 0) = -1; shorter(0, 1, 0) = -1; shorter(0, 0, 2) = -2; shorter(0, 0, -1) = -2");
        changesNothing(16, RefusalBoundaries::rich, "print(2, 0) = -2; print(-1, 0) = -2; print(0, -2) = -2");
        changesNothing(17, RefusalBoundaries::rich, "judge(0, 2000) = -2; judge(5, 2000) = -2; judge(1, -2000) = -2; judge(1, 20002000) = -2");
        changesNothing(20, RefusalBoundaries::rich, "which(2) = -2; which(-1) = -2");
        changesNothing(21, RefusalBoundaries::rich, "share(3, true) = -1; share(-1, false) = -1; share(32, true) = -1");
        changesNothing(22, RefusalBoundaries::rich, "lost(11, true) = -2; lost(-1, false) = -2");
        changesNothing(27, RefusalBoundaries::rich, "count(8) = -2; count(-1) = -2");
    }

    private static void nothingOfStores() {
        changesNothing(18, RefusalBoundaries::rich, "see(5, 0, 1) = -2; see(-1, 0, 1) = -2; see(0, 10, 1) = -2; see(0, -1, 1) = -2; see(0, 0, 2) = -2; see(0, 0, -1) = -2");
        changesNothing(18, RefusalBoundaries::fullOfObservations, "see(0, 5, 1) = -4; see(0, 10, 1) = -2");
        changesNothing(24, RefusalBoundaries::rich, "drawn(0) = -2; drawn(21) = -2; drawn(-1) = -2");
        changesNothing(25, RefusalBoundaries::rich, "keep(2) = -1; keep(-1) = -1");
        changesNothing(26, RefusalBoundaries::rich, "again(2) = -1; again(-1) = -1");
        changesNothing(26, RefusalBoundaries::nothingKept, "again(0) = -3; again(2) = -1");
    }
}
