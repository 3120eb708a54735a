/** The boundary cases of edits: the description's part on them, and promises 7 to 11. */
final class EditBoundaries {
    private static final String EIGHT_PINS = "A@01;A@02;A@03;A@04;A@05;A@06;A@07;A@08";
    private static final String EDITS = "The successful calls of put(), cut(), move() and respell() are edits, also if nothing becomes different by them.";
    private static final String KEPT = "the references keep their text if mend is 0;";
    private static final String MENDED = "if mend is 1, the number in each above reference that named a note which still exists becomes the new number of this"
        + " note (also in a note that is moved, but not in a note that is put).";
    private static final String IS_EDIT = "This is an edit.";
    private static final String MEND = "`mend`: 0 or 1, see Edits";

    private EditBoundaries() {
    }

    static void all() {
        whatIsAnEdit();
        latest();
        keptNumbers();
        mendedNumbers();
        put();
        putErrors();
        cut();
        move();
        moveErrors();
        respell();
        respellErrors();
        undo();
    }

    private static void whatIsAnEdit() {
        Sentence.of(7, EDITS).on("A;A;A;A;A;A;A").text("A").due("put(9, 0) = -2; count(6) = 0; put(0, 0) = 8; count(6) = 1; put(0, 0) = -4; count(6) = 1");
        Sentence.of(8, EDITS).on("A;A").due("cut(2, 0) = -1; count(6) = 0; cut(1, 0) = 1; count(6) = 1; cut(0, 0) = 0; count(6) = 2; cut(0, 0) = -1;"
            + "count(6) = 2");
        Sentence.of(9, EDITS).on("A;A").due("move(0, 2, 0) = -1; count(6) = 0; move(0, 0, 0) = 2; count(6) = 1; move(1, 1, 1) = 2; count(6) = 2;"
            + "move(0, 1, 0) = 2; count(6) = 3").prints(0, "A;A").due("undo() = 2; undo() = 1; undo() = 0; undo() = -3");
        Sentence.of(10, EDITS).on("AB1r05;i,B").due("respell(1, 1, 0) = -3; count(6) = 0; respell(0, 0, 0) = 0; count(6) = 1; respell(0, 0, 1) = 0;"
            + "count(6) = 2; respell(1, 0, 0) = 2; count(6) = 3").prints(0, "AB1r05;i,B").due("undo() = 2; undo() = 1; undo() = 0; undo() = -3");
        Sentence.of(11, EDITS).on("AB1r05;i").due("move(0, 1, 0) = 1; move(0, 1, 0) = 0; undo() = 1; count(6) = 1; keep(0) = 2; fault() = -9; judge(1, 1010) = -9;"
            + "see(0, 0, 1) = 1; unsee() = 1; wipe() = 8; write(65) = 1; count(6) = 1");
    }

    /** The first note goes to the end by every edit, so that its pin tells how many edits were made. */
    private static void latest() {
        Sentence latest = Sentence.of(11, "The latest 14 edits can be undone.");
        for (int edits : new int[] {0, 1, 13, 14, 15, 28, 29, 100}) undone(latest.on(EIGHT_PINS), edits);
        Run again = latest.on(EIGHT_PINS);
        undone(again, 20);
        undone(again, 16);
        Run last = Sentence.of(11, "An object is used for at most 512 calls after it has been made").on(EIGHT_PINS);
        int made = 1 + EIGHT_PINS.length() + 1;
        int edits = 511 - 14 - made;
        for (int i = 0; i < edits; i++) last.due("move(0, 7, 0) = 8");
        for (int left = 13; left >= 0; left--) last.due("undo() = " + left);
        last.due("reference(0, 0, 1) = " + ((edits - 14) % 8 + 1));
    }

    /** Makes edits on a run without edits, and undoes all that can be undone. */
    private static void undone(Run run, int edits) {
        int start = run.notes().reference(0, 0, 1) - 1;
        for (int i = 1; i <= edits; i++) run.due("move(0, 7, 0) = 8; count(6) = " + Math.min(i, 14));
        int left = Math.min(edits, 14);
        for (int made = edits; left > 0; left--, made--) {
            run.due("reference(0, 0, 1) = " + ((start + made) % 8 + 1) + "; undo() = " + (left - 1) + "; count(6) = " + (left - 1));
        }
        int oldest = edits - Math.min(edits, 14);
        run.due("reference(0, 0, 1) = " + ((start + oldest) % 8 + 1) + "; reference(7, 0, 1) = " + ((start + oldest + 7) % 8 + 1) + "; undo() = -3");
    }

    private static void keptNumbers() {
        Sentence.of(7, KEPT).on("B;a0A,a1A,a2A,a9A").text("a0B,a1B").due("put(0, 0) = 3").prints(0, "a0B,a1B;B;a0A,a1A,a2A,a9A");
        Sentence.of(8, KEPT).on("B;a0A,a1A,a2A,a9A;C").due("cut(0, 0) = 2").prints(0, "a0A,a1A,a2A,a9A;C");
        Sentence.of(9, KEPT).on("B;a0A,a1A,a2A,a9A;C").due("move(0, 2, 0) = 6").prints(0, "a0A,a1A,a2A,a9A;C;B").due("move(2, 0, 0) = 6; move(1, 0, 0) = 6")
            .prints(0, "a0A,a1A,a2A,a9A;B;C");
    }

    private static void mendedNumbers() {
        Sentence put = Sentence.of(7, MENDED);
        String three = "AB1r05;a0A,a1A,a2A,a3A;a4A,a9A";
        put.on(three).text("a0B,a1B,a2B,a3B").due("put(0, 1) = 4").prints(0, "a0B,a1B,a2B,a3B;AB1r05;a1A,a2A,a3A,a3A;a4A,a9A");
        put.on(three).text("a0B,a1B,a2B,a3B").due("put(1, 1) = 4").prints(0, "AB1r05;a0B,a1B,a2B,a3B;a0A,a2A,a3A,a3A;a4A,a9A");
        put.on(three).text("a0B,a1B,a2B,a3B").due("put(2, 1) = 4").prints(0, "AB1r05;a0A,a1A,a3A,a3A;a0B,a1B,a2B,a3B;a4A,a9A");
        put.on(three).text("a0B,a1B,a2B,a3B").due("put(3, 1) = 4").prints(0, three + ";a0B,a1B,a2B,a3B");
        put.on("a0A,a5A,a6A,a7A;B;B;B;B;B;a8A,a9A").text("C").due("put(0, 1) = 8").prints(0, "C;a1A,a6A,a7A,a7A;B;B;B;B;B;a8A,a9A");
        Sentence cut = Sentence.of(8, MENDED);
        String four = "AB1r05;B;a0A,a1A,a2A,a3A;a4A,a9A";
        cut.on(four).due("cut(0, 1) = 3").prints(0, "B;a0A,a0A,a1A,a2A;a4A,a9A");
        cut.on(four).due("cut(1, 1) = 3").prints(0, "AB1r05;a0A,a1A,a1A,a2A;a4A,a9A");
        cut.on(four).due("cut(3, 1) = 3").prints(0, "AB1r05;B;a0A,a1A,a2A,a3A");
        cut.on("a0A,a6A,a7A,a8A;B;B;B;B;B;B;a7A").due("cut(6, 1) = 7").prints(0, "a0A,a6A,a6A,a8A;B;B;B;B;B;a6A");
        Sentence move = Sentence.of(9, MENDED);
        String moved = "B;a0A,a1A,a2A,a3A;a4A,a5A,a9A;C";
        move.on(moved).due("move(0, 2, 1) = 9").prints(0, "a2A,a0A,a1A,a3A;a4A,a5A,a9A;B;C");
        move.on(moved).due("move(0, 3, 1) = 9").prints(0, "a3A,a0A,a1A,a2A;a4A,a5A,a9A;C;B");
        move.on(moved).due("move(1, 2, 1) = 9").prints(0, "B;a4A,a5A,a9A;a0A,a2A,a1A,a3A;C");
        move.on(moved).due("move(3, 1, 1) = 9").prints(0, "B;C;a0A,a2A,a3A,a1A;a4A,a5A,a9A");
        move.on(moved).due("move(1, 0, 1) = 9").prints(0, "a1A,a0A,a2A,a3A;B;a4A,a5A,a9A;C");
        move.on(moved).due("move(1, 1, 1) = 9").prints(0, moved);
        move.on("a0A,a1A,a7A,a8A;B;B;B;B;B;B;a9A").due("move(7, 0, 1) = 11").prints(0, "a9A;a1A,a2A,a0A,a8A;B;B;B;B;B;B");
    }

    private static void put() {
        Sentence only = Sentence.of(7, "Inserts the only note of the text at a place; the notes from this place on come after it.");
        only.on("A;B;C").text("D@04,E,F,i").due("put(0, 0) = 4").prints(0, "D@04,E,F,i;A;B;C");
        only.on("A;B;C").text("D@04,E,F,i").due("put(1, 0) = 4").prints(0, "A;D@04,E,F,i;B;C");
        only.on("A;B;C").text("D@04,E,F,i").due("put(3, 0) = 4").prints(0, "A;B;C;D@04,E,F,i");
        only.fresh().text("D").due("put(0, 0) = 1").prints(0, "D");
        Sentence.of(7, "The text stays.").on("A").text("B,i").due("put(0, 1) = 2; count(0) = 3; fault() = -9; put(2, 1) = 3; count(0) = 3").prints(0, "B,i;A;B,i");
        Sentence.of(7, IS_EDIT).on("A").text("B").due("put(1, 0) = 2; count(6) = 1; undo() = 0").prints(0, "A");
        Sentence.of(7, "`place`: the number that the note gets, 0 to the number of notes").on("A;A").text("B@09").due("put(-1, 0) = -2; put(3, 0) = -2;"
            + "put(0, 0) = 3; reference(0, 0, 1) = 9; put(4, 0) = -2; put(3, 0) = 4; reference(3, 0, 1) = 9; put(2, 0) = 5; reference(2, 0, 1) = 9");
        Sentence.of(7, MEND).on("A").text("B").due("put(0, -1) = -2; put(0, 2) = -2; put(0, 0) = 2; put(0, 1) = 3");
        Run returned = Sentence.of(7, "Returns the number of notes;").fresh().text("A");
        for (int notes = 1; notes <= 8; notes++) returned.due("put(0, 1) = " + notes);
    }

    private static void putErrors() {
        Sentence outside = Sentence.of(7, "OUTSIDE if place or mend is out of range;");
        outside.fresh().text("A").due("put(-1, 0) = -2; put(1, 0) = -2; put(0, -1) = -2; put(0, 2) = -2; put(2147483647, 1) = -2; put(-2147483648, 1) = -2;"
            + "put(0, 2147483647) = -2; put(0, -2147483648) = -2; count(1) = 0; put(0, 0) = 1; put(2, 0) = -2; put(1, 1) = 2");
        outside.on("A;A;A;A;A;A;A").text("A").due("put(8, 0) = -2; put(7, 0) = 8; put(9, 0) = -2");
        Sentence state = Sentence.of(7, "STATE if the text has a fault or does not consist of exactly one note;");
        for (String text : new String[] {"", "A;A", "A;A;A;A;A;A;A;A", "x", "A,", "A;", "AB1r0", "A,A,A,A,A"}) {
            state.on("B").text(text).due("put(0, 0) = -3; put(1, 1) = -3; count(1) = 1");
        }
        state.on("B").text("A").due("put(0, 0) = 2");
        state.on("B").text("A,A,A,A").due("put(0, 0) = 2");
        Sentence full = Sentence.of(7, "FULL if there are 8 notes.");
        full.on("A;A;A;A;A;A;A").text("B").due("put(7, 1) = 8; put(7, 1) = -4; put(0, 0) = -4; put(8, 0) = -4; count(1) = 8; cut(0, 0) = 7; put(0, 0) = 8;"
            + "put(0, 0) = -4");
    }

    private static void cut() {
        Sentence removed = Sentence.of(8, "Removes a note.");
        removed.on("A;B,i;C").due("cut(0, 0) = 2").prints(0, "B,i;C");
        removed.on("A;B,i;C").due("cut(1, 0) = 2").prints(0, "A;C");
        removed.on("A;B,i;C").due("cut(2, 0) = 2").prints(0, "A;B,i");
        Sentence.of(8, IS_EDIT).on("A").due("cut(0, 1) = 0; count(6) = 1; undo() = 0").prints(0, "A");
        Sentence.of(8, MEND).on("A;A;A").due("cut(0, -1) = -2; cut(0, 2) = -2; cut(0, 0) = 2; cut(0, 1) = 1");
        Run left = Sentence.of(8, "Returns the number of notes that are left;").on("A;A;A;A;A;A;A;A");
        for (int notes = 7; notes >= 0; notes--) left.due("cut(0, 1) = " + notes + "; count(1) = " + notes);
        left.due("cut(0, 1) = -1").prints(0, "");
        Beyond.notes(Sentence.of(8, "UNKNOWN if there is no such note;"), "cut(%d, 1)");
        Sentence.of(8, "OUTSIDE if mend is out of range.").on("A;A;A").due("cut(0, -1) = -2; cut(2, 2) = -2; cut(0, 2147483647) = -2; cut(0, -2147483648) = -2;"
            + "count(1) = 3; cut(2, 0) = 2; cut(1, 1) = 1");
    }

    private static void move() {
        Sentence moved = Sentence.of(9, "Moves a note so that it gets another number.");
        moved.on("A;B,i;C").due("move(0, 2, 0) = 4").prints(0, "B,i;C;A").due("move(2, 0, 0) = 4").prints(0, "A;B,i;C").due("move(1, 0, 0) = 4")
            .prints(0, "B,i;A;C").due("move(1, 2, 0) = 4").prints(0, "B,i;C;A");
        moved.on(EIGHT_PINS).due("move(0, 7, 1) = 8; reference(7, 0, 1) = 1; reference(0, 0, 1) = 2; move(7, 0, 1) = 8; reference(0, 0, 1) = 1;"
            + "reference(7, 0, 1) = 8");
        Sentence.of(9, IS_EDIT).on("A;B").due("move(0, 1, 1) = 2; count(6) = 1; undo() = 0").prints(0, "A;B");
        Sentence.of(9, "`to`: its new number, the number of a note").on("A@01;B;C").due("move(0, -1, 0) = -1; move(0, 3, 0) = -1; move(0, 0, 0) = 3;"
            + "reference(0, 0, 1) = 1; move(0, 2, 0) = 3; reference(2, 0, 1) = 1");
        Sentence.of(9, MEND).on("A;B").due("move(0, 1, -1) = -2; move(0, 1, 2) = -2; move(0, 1, 0) = 2; move(0, 1, 1) = 2");
        Sentence dead = Sentence.of(9, "Returns the number of dead references then;");
        dead.on("AB1r05;i").due("move(0, 1, 0) = 1; move(0, 1, 0) = 0; move(0, 0, 1) = 0");
        dead.on("A,A,A,A;A,A,A,A;A,A,A,A;A,A,A,A;A,A,A,A;A,A,A,A;A,A,A,A;A,A,A,A").due("move(0, 7, 1) = 32");
        dead.on("AB1r05;A,A,A,A;A,A,A,A;A,A,A,A;A,A,A,A;A,A,A,A;A,A,A,A;A,A,A,A").due("move(0, 7, 1) = 28; move(7, 6, 1) = 24; move(6, 0, 1) = 0");
    }

    private static void moveErrors() {
        Sentence unknown = Sentence.of(9, "UNKNOWN if there is no note from or to;");
        Beyond.notes(unknown, "move(%d, 0, 1)");
        Beyond.notes(unknown, "move(0, %d, 1)");
        unknown.on("A;A").due("move(2, 2, 0) = -1; move(-1, -1, 0) = -1; move(2, 1, 0) = -1; move(1, 2, 0) = -1; move(1, 1, 0) = 2");
        Sentence.of(9, "OUTSIDE if mend is out of range.").on("A;A").due("move(0, 1, -1) = -2; move(0, 1, 2) = -2; move(1, 1, 2) = -2;"
            + "move(0, 1, 2147483647) = -2; move(0, 1, -2147483648) = -2; count(6) = 0; move(0, 1, 0) = 2; move(0, 1, 1) = 2");
    }

    private static void respell() {
        Sentence replaced = Sentence.of(10, "Replaces a reference that finds a case.");
        replaced.on("AB1r05,AB1r05,A,a0A;AB1r05").due("respell(0, 1, 0) = 2; respell(0, 2, 1) = 0; respell(1, 0, 0) = 1; respell(0, 0, 0) = 0")
            .prints(0, "AB1r05,i,AB1r05,a0A;A");
        Sentence.of(10, IS_EDIT).on("AB1r05;A").due("respell(1, 0, 0) = 2; count(6) = 1; undo() = 0").prints(0, "AB1r05;A");
        Sentence shorter = Sentence.of(10, "`how`: 0: by its shorter form;");
        shorter.on("AB1r05@06;AB1r05@07;CD2s10;AB1r05").due("respell(1, 0, 0) = 2; respell(3, 0, 0) = 1").prints(0, "AB1r05@06;i@07;CD2s10;A");
        shorter.on("AB1r05;AC2s10;CD3r01;AB1r05@99").due("respell(3, 0, 0) = 3").prints(0, "AB1r05;AC2s10;CD3r01;a0A@99");
        shorter.on("AB1r05=2s10,AC3r01;CD1r05").due("respell(1, 0, 0) = 0; respell(0, 0, 0) = 0").prints(0, "AB1r05=2s10,AC3r01;AB1r05=2s10");
        Sentence longer = Sentence.of(10, "1: by a full reference like the first full reference of its case (name and reports), with its own pin");
        longer.on("AB1r05=2s10@77;i;A@01;a0A@99").due("respell(1, 0, 1) = 0; respell(2, 0, 1) = 0; respell(3, 0, 1) = 0; respell(0, 0, 1) = 0")
            .prints(0, "AB1r05=2s10@77;AB1r05=2s10;AB1r05=2s10@01;AB1r05=2s10@99");
        longer.on("AB1r05;CD1r05=2s10@09;EF2s10").due("respell(1, 0, 1) = 0; respell(2, 0, 1) = 0").prints(0, "AB1r05;AB1r05@09;EF2s10");
        longer.on("AB1r05;CD1r05=2s10@09;EF2s10").due("respell(2, 0, 1) = 0").prints(0, "AB1r05;CD1r05=2s10@09;AB1r05");
        Sentence.of(10, "Returns its form then (0 to 3, as for reference());").on("AB1r05;AC2s10;AB1r05;CD3r01;AB1r05;C;A").due("respell(0, 0, 0) = 0;"
            + "respell(2, 0, 0) = 3; reference(2, 0, 0) = 3; respell(4, 0, 0) = 3; respell(5, 0, 0) = 1; reference(5, 0, 0) = 1; respell(5, 0, 1) = 0;"
            + "reference(5, 0, 0) = 0; respell(6, 0, 0) = -3; reference(6, 0, 0) = 1; cut(1, 0) = 6; respell(1, 0, 1) = 0; respell(1, 0, 0) = 2;"
            + "reference(1, 0, 0) = 2");
    }

    private static void respellErrors() {
        Sentence unknown = Sentence.of(10, "UNKNOWN if there is no such note or reference;");
        Beyond.references(unknown, "respell(%d, %d, 0)");
        Beyond.references(unknown, "respell(%d, %d, 1)");
        Sentence.of(10, "OUTSIDE if how is not 0 or 1;").on("AB1r05;A").due("respell(1, 0, -1) = -2; respell(1, 0, 2) = -2; respell(1, 0, 2147483647) = -2;"
            + "respell(1, 0, -2147483648) = -2; count(6) = 0; respell(1, 0, 0) = 2; respell(1, 0, 1) = 0");
        Sentence dead = Sentence.of(10, "STATE if the reference is dead.");
        dead.on("AB1r05,AC2s10,B;i;A,i,a9A").due("respell(0, 2, 0) = -3; respell(1, 0, 0) = -3; respell(2, 0, 0) = -3; respell(2, 1, 0) = -3;"
            + "respell(2, 2, 0) = -3; respell(0, 2, 1) = -3; respell(1, 0, 1) = -3; respell(2, 0, 1) = -3; respell(2, 1, 1) = -3; respell(2, 2, 1) = -3;"
            + "count(6) = 0; respell(0, 0, 0) = 0; respell(0, 1, 1) = 0; count(6) = 2");
    }

    private static void undo() {
        Sentence latest = Sentence.of(11, "Undoes the latest edit that can be undone: the paper is as it was before it.");
        latest.on("AB1r05;a0A;A").text("i").due("put(0, 1) = 4; cut(2, 1) = 3; move(0, 2, 1) = 0; respell(1, 0, 1) = 0").prints(0, "AB1r05;AB1r05;i")
            .due("undo() = 3").prints(0, "AB1r05;A;i").due("undo() = 2").prints(0, "i;AB1r05;A").due("undo() = 1; found(3, 0, 0) = 0")
            .prints(0, "i;AB1r05;a1A;A").due("undo() = 0").prints(0, "AB1r05;a0A;A");
        latest.on("A").due("cut(0, 0) = 0; undo() = 0; cut(0, 0) = 0; undo() = 0").prints(0, "A");
        latest.fresh().text("A").due("put(0, 0) = 1; undo() = 0; count(1) = 0; count(0) = 1").prints(0, "");
        Sentence.of(11, "Returns the number of edits that can still be undone;").on("A;B").due("move(0, 1, 0) = 2; move(0, 1, 0) = 2; move(0, 1, 0) = 2;"
            + "undo() = 2; undo() = 1; move(0, 1, 0) = 2; undo() = 1; undo() = 0");
        Sentence none = Sentence.of(11, "STATE if there is none.");
        none.fresh().due("undo() = -3");
        none.on("A;B").due("undo() = -3; move(0, 1, 0) = 2; undo() = 0; undo() = -3; undo() = -3").prints(0, "A;B");
        none.on("A;B").due("keep(0) = 2; move(0, 1, 0) = 2; again(0) = 2; undo() = -3; move(0, 1, 0) = 2; paper() = 2; undo() = -3");
    }
}
