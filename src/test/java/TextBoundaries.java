/** The boundary cases of texts and papers: the description's first part, and promises 1 to 6. */
final class TextBoundaries {
    private static final String LETTERS = "ABCDEF", DIGITS = "0123456789", NOT_ZERO = "123456789", BEGINNINGS = "ABCDEFai";
    private static final String EIGHT = "A;A;A;A;A;A;A;A", FOUR = "A,A,A,A";
    private static final String LARGEST = String.join(";", java.util.Collections.nCopies(8, FOUR));
    /** 119 bytes: two notes of four references. */
    private static final String LONG = String.join(";", java.util.Collections.nCopies(2,
        String.join(",", java.util.Collections.nCopies(4, "CD5s10=3r20@77"))));
    /** 120 bytes: three notes. */
    static final String LONGEST = LONG.substring(0, LONG.length() - 3) + ";a0C";

    private TextBoundaries() {
    }

    static void all() {
        papers();
        references();
        reports();
        faults();
        newObject();
        write();
        wipe();
        fault();
        paper();
        paperKeepsAndDrops();
        reference();
        referenceErrors();
    }

    private static void papers() {
        Sentence notes = Sentence.of(5, "A paper has 0 to 8 notes, numbered from 0 (at first none).");
        notes.fresh().due("count(1) = 0; reference(0, 0, 0) = -1; cut(0, 0) = -1; paper() = 0; count(1) = 0");
        notes.text("A@01;A;A;A;A;A;A;A@08").due("paper() = 8; count(1) = 8; reference(0, 0, 1) = 1; reference(7, 0, 1) = 8; reference(8, 0, 1) = -1;"
            + "reference(-1, 0, 1) = -1");
        notes.text(EIGHT + ";A").due("paper() = -3; count(1) = 0");
        Sentence inNote = Sentence.of(5, "A note has 1 to 4 references, numbered from 0.");
        inNote.text("A@01").due("paper() = 1; count(2) = 1; reference(0, 0, 1) = 1; reference(0, 1, 1) = -1; reference(0, -1, 1) = -1");
        inNote.text("A@01,A,A,A@04").due("paper() = 1; count(2) = 4; reference(0, 0, 1) = 1; reference(0, 3, 1) = 4; reference(0, 4, 1) = -1");
        inNote.text(FOUR + ",A").due("paper() = -3");
        inNote.text("A;;A").due("paper() = -3");
        inNote.text(";").due("paper() = -3");
        inNote.text(LARGEST).due("paper() = 8; count(2) = 32");
        Sentence.of(13, "The order of the references is the order of the notes and, in a note, of the references.").on("CD2r02,AB1r01;EF3r03;BA1r01,DC3r03")
            .due("aCase(0, 0) = 2; aCase(1, 0) = 0; aCase(2, 0) = 4; aCase(3, 0) = -1");
        Sentence buffer = Sentence.of(2, "The text is a buffer of at most 120 bytes.");
        buffer.text(LONGEST).due("count(0) = 120; write(65) = -4; count(0) = 120; paper() = 3; print(0, -1) = 120; print(0, 0) = 67; print(0, 119) = 67");
        buffer.text(LONG).due("count(0) = 119; write(59) = 120; write(65) = -4; fault() = 120");
        Sentence parts = Sentence.of(4, "The text of a paper is empty, or it consists of its notes, separated by semicolons; a note consists of its references,"
            + " separated by commas.");
        parts.fault(-9, "", "A", "A;A", "A,A", "A,A;A", "A;A,A");
        parts.fault(0, ";", ",", ";A", ",A");
        parts.fault(2, "A;;A", "A,,A", "A;,A", "A,;A");
        parts.fault(2, "A;", "A,");
        parts.next("AB1r05@07", ",;");
        parts.next("A,", BEGINNINGS);
        parts.next("A;", BEGINNINGS);
    }

    private static void references() {
        Sentence pinned = Sentence.of(4, "A reference is one of the following (ASCII characters), and optionally a pin:");
        pinned.fault(-9, "AB1r05", "AB1r05@07", "AB1r05=2s10", "AB1r05=2s10@07", "A", "A@07", "i", "i@07", "a0A", "a0A@07");
        pinned.fault(4, "A@07@07");
        pinned.next("", BEGINNINGS);
        Sentence full = Sentence.of(4, "full: two different letters A to F (the name), a report, and optionally = and a report of the other series;");
        for (char first = 'A'; first <= 'F'; first++) {
            String second = LETTERS.replace("" + first, "");
            full.next("" + first, second + "@,;");
            for (int i = 0; i < second.length(); i++) full.fault(-9, first + second.substring(i, i + 1) + "1r05");
        }
        full.next("AB", NOT_ZERO);
        full.next("AB1r05", "=@,;");
        full.next("AB1s05", "=@,;");
        full.next("AB1r05=", NOT_ZERO);
        full.next("AB1r05=1", "s");
        full.next("AB1s05=1", "r");
        full.next("AB1r05=1s05", "@,;");
        full.fault(-9, "AB1r05", "AB1s05", "AB1r05=1s05", "AB1s05=1r05");
        Sentence shortOnes = Sentence.of(4, "short: a letter A to F;");
        shortOnes.fault(-9, "A", "B", "C", "D", "E", "F");
        shortOnes.fault(0, "@", "G", "f", "`");
        Sentence same = Sentence.of(4, "same: i;");
        same.fault(-9, "i");
        same.fault(0, "h", "j", "I");
        same.next("i", "@,;");
        Sentence above = Sentence.of(4, "above: a, a digit 0 to 9 (the number of a note), and a letter A to F.");
        above.next("a", DIGITS);
        above.next("a0", LETTERS);
        above.next("a9", LETTERS);
        above.next("a0A", "@,;");
        above.fault(-9, "a0A", "a9F");
    }

    private static void reports() {
        Sentence report = Sentence.of(4, "A report consists of a digit 1 to 9 (the volume), r or s (the series), and two digits (the page, 01 to 99).");
        report.next("AB", NOT_ZERO);
        report.next("AB1", "rs");
        report.next("AB9", "rs");
        report.next("AB1r", DIGITS);
        report.next("AB1r0", NOT_ZERO);
        report.next("AB1s1", DIGITS);
        report.next("AB1s9", DIGITS);
        report.next("AB1s05=", NOT_ZERO);
        report.next("AB1s05=1r", DIGITS);
        report.next("AB1s05=1r0", NOT_ZERO);
        report.next("AB1s05=1r9", DIGITS);
        report.fault(-9, "AB1r01", "AB9r99", "AB1s01", "AB9s99", "AB9s99=9r99", "AB1r01=1s01");
        report.fault(6, "AB1r100");
        Sentence pin = Sentence.of(4, "A pin is @ and two digits (a page, 01 to 99).");
        for (String before : new String[] {"A@", "i@", "a0A@", "AB1r05@", "AB1r05=1s05@"}) {
            pin.next(before, DIGITS);
            pin.next(before + "0", NOT_ZERO);
            pin.next(before + "9", DIGITS);
            pin.next(before + "99", ",;");
            pin.fault(-9, before + "01", before + "99");
        }
    }

    private static void faults() {
        Sentence first = Sentence.of(4, "The fault of a text is the place (counted from 0) of the first character with which the text cannot be the beginning"
            + " of the text of a paper");
        first.fault(0, "x", "xA", "@01", "\0", "\u00ff");
        first.fault(1, "AA", "AAx", "A AB1r05", "ix@00");
        first.fault(5, "AB1r00", "AB1r00@00", "AB1r0x;;");
        first.fault(8, "AB1r05,AA;x", "AB1r05;Ax");
        first.fault(118, LONG.substring(0, 118) + "x");
        first.fault(119, LONG + "x", LONG + ",");
        Sentence many = Sentence.of(4, "(also a semicolon after the eighth note and a comma after the fourth reference of a note)");
        many.next("A;A;A;A;A;A;A", "BCDEF@,;");
        many.next(EIGHT, "BCDEF@,");
        many.next("A,A,A", "BCDEF@,;");
        many.next(FOUR, "BCDEF@;");
        many.next("A;" + FOUR, "BCDEF@;");
        many.next(FOUR + ";A,A,A", "BCDEF@,;");
        many.next(LARGEST, "BCDEF@");
        many.fault(15, EIGHT + ";", EIGHT + ";A");
        many.fault(7, FOUR + ",", FOUR + ",A");
        Sentence incomplete = Sentence.of(4, "or the length of the text if it is only incomplete.");
        String text = "AB1r05=2s10@07,i;a0A@09";
        String whole = " 0 1 6 11 14 16 20 23 ";
        for (int length = 0; length <= text.length(); length++) {
            incomplete.fault(whole.contains(" " + length + " ") ? -9 : length, text.substring(0, length));
        }
        incomplete.fault(118, LONG.substring(0, 118));
        incomplete.fault(120, LONG + ";");
    }

    private static void newObject() {
        Sentence made = Sentence.of(1, "Creates an empty paper, with an empty text and the seed 0.");
        made.fresh().due("count(0) = 0; count(1) = 0; count(2) = 0; count(3) = 0; count(4) = 0; count(5) = 0; count(6) = 0; count(7) = 0;"
            + "print(0, -1) = 0; print(0, 0) = -9; fault() = -9; wipe() = 0; seed(0) = 0");
        made.fresh().due("undo() = -3; again(0) = -3; again(1) = -3; which(0) = 0; unsee() = 0");
        made.fresh().due("drawn(1) = 0; seed(0) = 1442695040888963407");
        made.on("AB1r05;i").due("count(1) = 2");
        made.fresh().due("count(1) = 0; write(65) = 1");
    }

    private static void write() {
        Sentence.of(2, "Appends a byte to the text.").fresh().due("write(65) = 1; write(66) = 2; write(49) = 3; write(114) = 4; write(48) = 5; write(53) = 6;"
            + "paper() = 1; write(64) = 7; write(48) = 8; write(49) = 9; paper() = 1").prints(0, "AB1r05@01");
        Sentence letter = Sentence.of(2, "`letter`: the byte, 0 to 255");
        letter.fresh().due("write(0) = 1; fault() = 0; write(255) = 2; wipe() = 2; write(65) = 1; fault() = -9; write(255) = 2; fault() = 1");
        Sentence length = Sentence.of(2, "Returns the length of the text;");
        Run run = length.fresh();
        for (int i = 1; i <= 120; i++) run.due("write(" + (i + 100) + ") = " + i);
        length.text("A").due("paper() = 1; write(65) = 2; wipe() = 2; write(65) = 1");
        Sentence.of(2, "OUTSIDE if letter is out of range;").fresh().due("write(-1) = -2; write(0) = 1; write(255) = 2; write(256) = -2; write(321) = -2;"
            + "write(-191) = -2; write(2147483647) = -2; write(-2147483648) = -2; count(0) = 2");
        Sentence.of(2, "FULL if the text has 120 bytes.").text(LONG).due("write(0) = 120; write(0) = -4; write(255) = -4; count(0) = 120; wipe() = 120;"
            + "write(0) = 1");
    }

    private static void wipe() {
        Sentence empty = Sentence.of(3, "Empties the text.");
        empty.text("AB1r05;i").due("paper() = 2; wipe() = 8; count(0) = 0; fault() = -9; count(1) = 2; write(105) = 1; fault() = -9; paper() = 1").prints(0, "i");
        // what stood behind the end of the new text is gone: nothing of it continues a reference, a note or a paper
        String before = "AB1r05=2s10@07,i;a0A@09";
        for (int length : new int[] {0, 1, 6, 11, 14, 16, 20, 23}) {
            String text = before.substring(0, length);
            empty.text(before).text(text).due("fault() = -9; paper() = " + (length == 0 ? 0 : length < 17 ? 1 : 2)).prints(0, text);
        }
        empty.text(before).text("AB1r0").due("fault() = 5");
        empty.text(LONGEST).text("A").due("fault() = -9; write(66) = 2; fault() = 2; wipe() = 2; fault() = -9; paper() = 0");
        Sentence length = Sentence.of(3, "Returns the length that it had.");
        length.fresh().due("wipe() = 0; wipe() = 0; write(65) = 1; wipe() = 1; wipe() = 0");
        length.text(LONGEST).due("write(65) = -4; wipe() = 120; wipe() = 0");
    }

    private static void fault() {
        Sentence.of(4, "Checks the text.").on("AB1r05;i").due("move(0, 1, 0) = 1; keep(0) = 2; write(120) = 9; fault() = 8; fault() = 8; count(0) = 9;"
            + "count(1) = 2; count(6) = 1; found(0, 0, 1) = 3; again(0) = 2; wipe() = 9; fault() = -9; count(1) = 2");
        Sentence place = Sentence.of(4, "Returns the fault;");
        place.fault(0, "x");
        place.fault(2, "AB");
        place.fault(119, LONG + "x");
        Sentence none = Sentence.of(4, "NONE if the text is the text of a paper.");
        none.fault(-9, "", "A", LARGEST, LONG, LONGEST);
        none.text("A").due("fault() = -9; write(44) = 2; fault() = 2; write(105) = 3; fault() = -9");
    }

    private static void paper() {
        Sentence place = Sentence.of(5, "Reads the text as the paper, in place of the present one.");
        place.on("AB1r05,CD2s10;A;i").text("i").due("paper() = 1; count(1) = 1; count(2) = 1; count(3) = 0; reference(0, 1, 0) = -1;"
            + "reference(1, 0, 0) = -1; found(0, 0, 1) = 3").prints(0, "i");
        place.on("AB1r05,CD2s10;A;i").text("").due("paper() = 0; count(2) = 0").prints(0, "");
        place.on("i").text(LARGEST).due("paper() = 8; count(2) = 32; share(7, true) = 0").prints(0, LARGEST);
        Sentence.of(5, "The text stays.").on("AB1r05;i@07").due("count(0) = 11; fault() = -9; paper() = 2; write(44) = 12; wipe() = 12");
        Sentence notes = Sentence.of(5, "Returns the number of notes;");
        notes.text("").due("paper() = 0");
        notes.text(FOUR).due("paper() = 1");
        notes.text(EIGHT).due("paper() = 8");
        notes.text(LARGEST).due("paper() = 8");
        Sentence state = Sentence.of(5, "STATE if the text has a fault.");
        for (String text : new String[] {"x", "AB1r00", "AB1r0", "A;", EIGHT + ";A", FOUR + ",A", LONG + ";", LONG + "x"}) {
            state.on("AB1r05;i").text(text).due("paper() = -3; count(1) = 2; found(1, 0, 0) = 0");
        }
    }

    private static void paperKeepsAndDrops() {
        Sentence drops = Sentence.of(5, "No edit can be undone, and the slots keep nothing;");
        drops.on("AB1r05;A").due("cut(1, 0) = 1; keep(0) = 1; keep(1) = 1; count(6) = 1; paper() = 2; count(6) = 0; undo() = -3; again(0) = -3; again(1) = -3")
            .prints(0, "AB1r05;A").due("cut(0, 0) = 1; count(6) = 1; undo() = 0; undo() = -3").prints(0, "AB1r05;A");
        Run run = drops.on("AB1r05;A");
        for (int i = 0; i < 15; i++) run.due("move(0, 0, 0) = 0");
        run.due("count(6) = 14; paper() = 2; count(6) = 0; undo() = -3");
        Sentence stays = Sentence.of(5, "the observations and the seed stay.");
        stays.on("AB1r05").due("see(0, 2, 1) = 1; see(1, 3, 1) = 2; see(3, 2, 1) = 3; see(4, 1, 1) = 4; see(2, 0, 1) = 5; see(2, 1, 0) = 6; seed(-1) = 0;"
            + "which(0) = 0").text("CD2s10").due("paper() = 1; count(7) = 6; which(0) = 1; see(0, 0, 0) = -4; unsee() = 6; seed(0) = -1");
    }

    private static void reference() {
        Sentence what = Sentence.of(6, "`what`: 0 for its form (0 full, 1 short, 2 same, 3 above), 1 for its pin, 2 for the number in an above reference");
        what.on("AB1r05@01,AB1r05=2s10@99,F,i@01;a0A@99,a9F,F@99").due("reference(0, 0, 0) = 0; reference(0, 1, 0) = 0; reference(0, 2, 0) = 1;"
            + "reference(0, 3, 0) = 2; reference(1, 0, 0) = 3; reference(1, 1, 0) = 3; reference(0, 0, 1) = 1; reference(0, 1, 1) = 99;"
            + "reference(0, 3, 1) = 1; reference(1, 0, 1) = 99; reference(1, 2, 1) = 99; reference(1, 0, 2) = 0; reference(1, 1, 2) = 9");
        Sentence.of(6, "Returns a property of a reference.").on("a0A,a9A@10;a7F@09").due("reference(0, 0, 2) = 0; reference(0, 1, 2) = 9;"
            + "reference(0, 1, 1) = 10; reference(1, 0, 2) = 7; reference(1, 0, 1) = 9");
        Sentence none = Sentence.of(6, "for what 1 NONE if it has no pin, for what 2 NONE if it is not an above reference;");
        none.on("AB1r05,AB1r05=2s10,A,i;a0A;AB1r05@01,A@01,i@01").due("reference(0, 0, 1) = -9; reference(0, 1, 1) = -9; reference(0, 2, 1) = -9;"
            + "reference(0, 3, 1) = -9; reference(1, 0, 1) = -9; reference(0, 0, 2) = -9; reference(0, 1, 2) = -9; reference(0, 2, 2) = -9;"
            + "reference(0, 3, 2) = -9; reference(1, 0, 2) = 0; reference(2, 0, 2) = -9; reference(2, 1, 2) = -9; reference(2, 2, 2) = -9");
    }

    private static void referenceErrors() {
        Sentence unknown = Sentence.of(6, "UNKNOWN if there is no such note or reference;");
        Beyond.references(unknown, "reference(%d, %d, 0)");
        Sentence.of(6, "OUTSIDE if what is not 0 to 2.").on("a3A@05").due("reference(0, 0, -1) = -2; reference(0, 0, 0) = 3; reference(0, 0, 2) = 3;"
            + "reference(0, 0, 3) = -2; reference(0, 0, 2147483647) = -2; reference(0, 0, -2147483648) = -2");
    }
}
