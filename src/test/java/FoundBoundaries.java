/** The boundary cases of what references find: the description's parts on resolving, pins and shorter forms, and promises 12, 15 and 16. */
final class FoundBoundaries {
    private FoundBoundaries() {
    }

    static void all() {
        full();
        shortOnes();
        same();
        above();
        aboveNumbers();
        pins();
        found();
        spellings();
        ownSpelling();
        asItIs();
        shorter();
        print();
        printErrors();
    }

    private static void full() {
        Sentence.of(12, "Each reference either finds exactly one case or is dead.").on("AB1r05,AC2r05,i;A,B,i,a0A").due("found(0, 0, 0) = 0; found(0, 1, 0) = 1;"
            + "found(0, 2, 0) = 1; found(1, 0, 0) = -9; found(1, 1, 0) = -9; found(1, 2, 0) = -9; found(1, 3, 0) = -9; count(4) = 4");
        Sentence.of(12, "The reason is 0 if it finds a case, otherwise as given here:").on("AB1r05;A;i;a0A;B,i;i;a9A").due("found(0, 0, 1) = 0;"
            + "found(1, 0, 1) = 0; found(2, 0, 1) = 0; found(3, 0, 1) = 0; found(4, 0, 1) = 1; found(4, 1, 1) = 4; found(5, 0, 1) = 3; found(6, 0, 1) = 5");
        Sentence.of(12, "full: it finds its own case.").on("AB1r05,AC1r06,AB1r05;CD1r06=2s10").due("found(0, 0, 0) = 0; found(0, 1, 0) = 1; found(0, 2, 0) = 0;"
            + "found(1, 0, 0) = 1; found(1, 0, 1) = 0");
    }

    private static void reason(Sentence sentence, String text, int note, int reference, int due) {
        Run run = sentence.on(text);
        run.check("the reason of reference " + reference + " of note " + note + " of " + text, run.notes().found(note, reference, 1), due);
        run.check("is it dead", run.notes().found(note, reference, 0) == PointingNotes.NONE ? 1 : 0, due == 0 ? 0 : 1);
    }

    private static void shortOnes() {
        Sentence one = Sentence.of(12, "short: it finds a case that has a full reference before this reference and whose name begins with the letter, if there is"
            + " exactly one; reason 1 if there is none, 2 if there are several.");
        reason(one, "A", 0, 0, 1);
        reason(one, "BA1r05,A", 0, 1, 1);
        reason(one, "AB1r05,B", 0, 1, 1);
        reason(one, "A,AB1r05", 0, 0, 1);
        reason(one, "AB1r05,A", 0, 1, 0);
        reason(one, "A;AB1r05", 0, 0, 1);
        reason(one, "AB1r05;A", 1, 0, 0);
        reason(one, "AB1r05,AC2r05,A", 0, 2, 2);
        reason(one, "AB1r05,AC2r05,AD3r05;A", 1, 0, 2);
        reason(one, "AB1r05,A,AC2r05", 0, 1, 0);
        reason(one, "AB1r05;A;AC2r05", 1, 0, 0);
        reason(one, "AB1r05,AC1r05,AD1r05,A", 0, 3, 0);
        reason(one, "AB1r05,AC2s10;A;AD1r05=2s10", 1, 0, 0);
        reason(one, "AB1r05,AC2s10;A;AD1r05=2s11", 1, 0, 2);
        reason(one, "BA1r05;AB1r05,A", 1, 1, 1);
        reason(one, "FA1r05,EB2r05,F", 0, 2, 0);
        one.on("CD3r05,AB1r05,A,C").due("found(0, 2, 0) = 1; found(0, 3, 0) = 0");
    }

    private static void same() {
        Sentence points = Sentence.of(12, "same: it points to the reference before it in its note; if it is the first one of its note, to the only reference of"
            + " the note before.");
        points.on("AB1r05;CD2r05,i,EF3r05,i").due("found(1, 1, 0) = 1; found(1, 3, 0) = 2");
        points.on("AB1r05;CD2r05;i,i,i,i").due("found(2, 0, 0) = 1; found(2, 3, 0) = 1");
        Sentence.of(12, "It finds what that reference finds.").on("AB1r05;i;i;i;i;i;i;i").due("found(1, 0, 0) = 0; found(7, 0, 0) = 0; found(7, 0, 1) = 0;"
            + "count(4) = 0");
        Sentence dead = Sentence.of(12, "Reason 3 if it is the first one of its note and there is no note before, or that note has more than one reference; 4 if the"
            + " reference to which it points is dead.");
        reason(dead, "i", 0, 0, 3);
        reason(dead, "i,AB1r05", 0, 0, 3);
        reason(dead, "AB1r05;i", 1, 0, 0);
        reason(dead, "AB1r05,AB1r05;i", 1, 0, 3);
        reason(dead, "AB1r05,i,i,i;i", 1, 0, 3);
        reason(dead, "AB1r05,AB1r05;i,i", 1, 1, 4);
        reason(dead, "A,A;i", 1, 0, 3);
        reason(dead, "A;i", 1, 0, 4);
        reason(dead, "A,i", 0, 1, 4);
        reason(dead, "AB1r05,B,i", 0, 2, 4);
        reason(dead, "i;i", 1, 0, 4);
        reason(dead, "a0A;i", 1, 0, 4);
        reason(dead, "A;AB1r05;i", 2, 0, 0);
        reason(dead, "AB1r05;CD2r05,C;i", 2, 0, 3);
    }

    private static void above() {
        Sentence one = Sentence.of(12, "it finds a case that is found by a reference of that note and whose name begins with the letter, if there is exactly one;"
            + " reason 1 if there is none, 2 if there are several.");
        reason(one, "BA1r05;a0A", 1, 0, 1);
        reason(one, "BA1r05;a0B", 1, 0, 0);
        reason(one, "AB1r05,AC2r05;a0A", 1, 0, 2);
        reason(one, "AB1r05,i,AB1r05,AC1r05;a0A", 1, 0, 0);
        reason(one, "AB1r05,CD2r05,EF3r05,AC4r05;a0A", 1, 0, 2);
        reason(one, "A;a0A", 1, 0, 1);
        reason(one, "AB1r05;B;a1A", 2, 0, 1);
        reason(one, "AB1r05;CD1r05;a1C", 2, 0, 1);
        reason(one, "AB1r05;CD1r05;a1A", 2, 0, 0);
        reason(one, "AB1r05;AC2r05;a0A", 2, 0, 0);
        one.on("AB1r05;AC2r05;a0A;a1A;a2A;a3A").due("found(2, 0, 0) = 0; found(3, 0, 0) = 1; found(4, 0, 0) = 0; found(5, 0, 0) = 1");
    }

    private static void aboveNumbers() {
        Sentence before = Sentence.of(12, "above: if the note with this number exists and comes before its own note,");
        Sentence five = Sentence.of(12, "Reason 5 if there is no such note or it does not come before its own note.");
        for (Sentence sentence : new Sentence[] {before, five}) {
            reason(sentence, "AB1r05;a0A", 1, 0, 0);
            reason(sentence, "AB1r05,a0A", 0, 1, 5);
            reason(sentence, "a0A", 0, 0, 5);
            reason(sentence, "a1A;AB1r05", 0, 0, 5);
            reason(sentence, "AB1r05;AB1r05,a1A", 1, 1, 5);
            reason(sentence, "AB1r05;a2A;AB1r05", 1, 0, 5);
            reason(sentence, "AB1r05;a2A", 1, 0, 5);
            reason(sentence, "AB1r05;B;B;a2A", 3, 0, 1);
            reason(sentence, "AB1r05;B;B;a3A", 3, 0, 5);
            String eight = "AB1r05;B;B;B;B;B;AC2r05;";
            for (int number = 0; number <= 9; number++) {
                int due = number == 0 || number == 6 ? 0 : number < 7 ? 1 : 5;
                reason(sentence, eight + "a" + number + "A", 7, 0, due);
            }
        }
    }

    private static void state(Sentence sentence, int due, String... texts) {
        for (String text : texts) sentence.on(text).due("found(0, 0, 2) = " + due);
    }

    private static void pins() {
        Sentence pin = Sentence.of(12, "The state of the pin of a reference is: 4 if the reference is dead; otherwise 1 if it has no pin; otherwise 2 if the pin is less"
            + " than the page p of the first report of the case; otherwise 3 if there is a full reference of another case with a report (its first"
            + " or its second one) of the same volume and series whose page is greater than p and at most the pin; otherwise 0.");
        state(pin, 4, "A", "A@05", "i", "i@99", "a0A", "a0A@01");
        state(pin, 1, "AB1r05", "AB1r05=2s10", "AB1r05;CD1r06");
        state(pin, 2, "AB1r20@19", "AB1r20@01", "AB1r99@98", "AB1r02@01", "AB1r20=1s05@19", "AB1r20@19;CD1r19", "AB1r20@10;CD1r05");
        state(pin, 0, "AB1r20@20", "AB1r20@21", "AB1r01@01", "AB1r99@99", "AB1r01@99", "AB1r20=1s50@20");
        state(pin, 3, "AB1r20@40;CD1r40", "AB1r20@41;CD1r40", "AB1r20@99;CD1r40", "AB1r20@21;CD1r21", "AB1r01@99;CD1r99", "AB1r01@02;CD1r02", "AB1r98@99;CD1r99");
        state(pin, 0, "AB1r20@39;CD1r40", "AB1r20@20;CD1r21", "AB1r20@99;CD1r19", "AB1r01@98;CD1r99");
        state(pin, 0, "AB1r20@99;CD2r40", "AB2r20@99;CD1r40", "AB1r20@99;CD1s40", "AB1s20@99;CD1r40", "AB1s20@99;CD2r01", "AB1r99@99;CD1s01");
        state(pin, 3, "AB1r20@40;CD3s01=1r40", "AB1r20@40;CD1r40=3s01", "AB1s20@40;CD1s40", "AB1r20@40;CD9r09,AB1r40", "AB1r20=1s01@40;CD1r40");
        state(pin, 0, "AB1r20@40;CD3s01=1r41", "AB1r20@40;CD1r41=3s01", "AB1r20@40;CD3s40=2r40");
        state(pin, 0, "AB1r20@50;AB1r20=2s10;AB2s10=1r30", "AB1r20=1s50@70;CD1s60", "AB1r20=1s50@30");
        pin.on("CD1r40;AB1r20@39,A@40,A@19,A").due("found(1, 0, 2) = 0; found(1, 1, 2) = 3; found(1, 2, 2) = 2; found(1, 3, 2) = 1");
        pin.on("CD1r40;AB1r20@40").due("found(1, 0, 2) = 3; cut(0, 0) = 1; found(0, 0, 2) = 0; undo() = 0; found(1, 0, 2) = 3");
        pin.on("AB1r20;AB1r20=2s50;AB2s50@30,i@20,i@19;EF1r30").due("found(2, 0, 2) = 3; found(2, 1, 2) = 0; found(2, 2, 2) = 2");
    }

    private static void found() {
        Sentence.of(12, "Returns what a reference finds.").on("AB1r20;A@19").due("found(1, 0, 0) = 0; found(1, 0, 1) = 0; found(1, 0, 2) = 2; cut(0, 0) = 1;"
            + "found(0, 0, 0) = -9; found(0, 0, 1) = 1; found(0, 0, 2) = 4; undo() = 0; found(1, 0, 0) = 0");
        Sentence.of(12, "`what`: 0 for the case, 1 for the reason, 2 for the state of its pin").on("AB1r05,CD2r05,C@05,i").due("found(0, 2, 0) = 1;"
            + "found(0, 2, 1) = 0; found(0, 2, 2) = 0; found(0, 3, 0) = 1; found(0, 3, 2) = 1");
        Sentence.of(12, "for what 0 NONE if the reference is dead;").on("A,i,a0A;i").due("found(0, 0, 0) = -9; found(0, 1, 0) = -9; found(0, 2, 0) = -9;"
            + "found(1, 0, 0) = -9; found(0, 0, 1) = 1; found(0, 1, 1) = 4; found(0, 2, 1) = 5; found(1, 0, 1) = 3");
        Sentence unknown = Sentence.of(12, "UNKNOWN if there is no such note or reference;");
        Beyond.references(unknown, "found(%d, %d, 0)");
        Beyond.references(unknown, "found(%d, %d, 2)");
        Sentence.of(12, "OUTSIDE if what is not 0 to 2.").on("AB1r05").due("found(0, 0, -1) = -2; found(0, 0, 0) = 0; found(0, 0, 2) = 1; found(0, 0, 3) = -2;"
            + "found(0, 0, 2147483647) = -2; found(0, 0, -2147483648) = -2");
    }

    private static void spellings() {
        Sentence first = Sentence.of(15, "The shorter form of a reference that finds a case is the first one of the following that, at its place, would find the same"
            + " case, with the pin of the reference: same; short (with the first letter of the name of the case); above (with this letter and the lowest"
            + " possible note); full (as the first full reference of the case).");
        first.on("AB1r05;AB1r05").prints(1, "AB1r05;i");
        first.on("AB1r05,a0A,A,AB1r05@99;A").prints(1, "AB1r05,a0A,A,i@99;A");
        first.on("AB1r05,AB1r05").prints(1, "AB1r05,i");
        first.on("AB1r05,CD2r05;a0A@01").prints(1, "AB1r05,CD2r05;A@01");
        first.on("AB1r05;CD2r05;a0A").prints(1, "AB1r05;CD2r05;A");
        first.on("AB1r05;CB1r05,i;AB1r05").prints(1, "AB1r05;i,i;A");
        first.on("CD3r05;AB1r05;AB1r05;AC2r05;CD3r05;a2A@09").prints(1, "CD3r05;AB1r05;i;AC2r05;C;a1A@09");
        first.on("AB1r05;AC2r05;CD3r05;AB1r05").prints(1, "AB1r05;AC2r05;CD3r05;a0A");
        first.on("AB1r05,AC2r05;AB1r05,C;AB1r05").prints(1, "AB1r05,AC2r05;AB1r05,C;a1A");
        first.on("AB1r05,AC2r05;AB1r05@07").prints(1, "AB1r05,AC2r05;AB1r05@07");
        first.on("AB1r05,AC2r05;EF1r05@07").prints(1, "AB1r05,AC2r05;AB1r05@07");
        first.on("AB1r05=2s10@06,AC3r01;CD2s10").prints(1, "AB1r05=2s10@06,AC3r01;AB1r05=2s10");
        first.on("AB1r05,AC2r05,AB1r05").prints(1, "AB1r05,AC2r05,AB1r05");
        first.on("AB1r05;CD2r05;a0A;AC3r05;a0A").prints(1, "AB1r05;CD2r05;A;AC3r05;a0A");
        first.on("B;B;B;B;B;AB1r05,AC2r05;AC2r05,B;a6A").prints(1, "B;B;B;B;B;AB1r05,AC2r05;AC2r05,B;a6A");
    }

    private static void ownSpelling() {
        Sentence own = Sentence.of(15, "But a full reference is its own shorter form unless a single full reference before it has all its reports; and a dead reference is"
            + " its own shorter form.");
        own.on("AB1r05;AB1r05=2s10").prints(1, "AB1r05;AB1r05=2s10");
        own.on("AB1r05=2s10;AB1r05;AB2s10;AB2s10=1r05@11").prints(1, "AB1r05=2s10;i;i;i@11");
        own.on("AB1r05;AB2s10;AB1r05=2s10").prints(1, "AB1r05;AB2s10;AB1r05=2s10");
        own.on("AB1r05;AB2s10;AB1r05=2s10;AB1r05=2s10").prints(1, "AB1r05;AB2s10;AB1r05=2s10;i");
        own.on("AB1r05=2s10;AB2s10=3r07;AB1r05=3s01").prints(1, "AB1r05=2s10;AB2s10=3r07;AB1r05=3s01");
        own.on("CD1r05;AB1r05").prints(1, "CD1r05;i");
        own.on("i,A@10,a5F@20").prints(1, "i,A@10,a5F@20");
        own.on("AB1r05,AC2r05,A@01;i;a0A").prints(1, "AB1r05,AC2r05,A@01;i;a0A");
    }

    private static void asItIs() {
        Sentence unchanged = Sentence.of(16, "Each shorter form is determined for the paper as it is, with all other references unchanged.");
        unchanged.on("AB1r05,AB1r05;AC2s10,AB1r05;AB1r05").prints(1, "AB1r05,i;AC2s10,a0A;a0A");
        unchanged.on("AB1r05;AB1r05;AB1r05").prints(1, "AB1r05;i;i").prints(0, "AB1r05;AB1r05;AB1r05");
    }

    private static void shorter() {
        Sentence.of(15, "Returns a property of the shorter form of a reference.").on("AB1r05;A@99").due("shorter(1, 0, 0) = 2; shorter(1, 0, 1) = 4; cut(0, 0) = 1;"
            + "shorter(0, 0, 0) = 1; shorter(0, 0, 1) = 4");
        Sentence what = Sentence.of(15, "`what`: 0 for its form (0 to 3, as for reference()), 1 for the number of its characters, with the pin");
        what.on("AB1r05,AB1r05@05,CD2r05,A;A@10,i,i@10").due("shorter(0, 0, 0) = 0; shorter(0, 0, 1) = 6; shorter(0, 1, 0) = 2;"
            + "shorter(0, 1, 1) = 4; shorter(0, 3, 0) = 1; shorter(0, 3, 1) = 1; shorter(1, 0, 0) = 1; shorter(1, 0, 1) = 4; shorter(1, 1, 0) = 2;"
            + "shorter(1, 1, 1) = 1; shorter(1, 2, 1) = 4");
        what.on("AB1r05=2s10,CD3r05@06,EF4r05=4s05@99;a9A,a9A@01").due("shorter(0, 0, 1) = 11; shorter(0, 1, 1) = 9; shorter(0, 2, 1) = 14;"
            + "shorter(0, 2, 0) = 0; shorter(1, 0, 0) = 3; shorter(1, 0, 1) = 3; shorter(1, 1, 1) = 6");
        Sentence unknown = Sentence.of(15, "UNKNOWN if there is no such note or reference;");
        Beyond.references(unknown, "shorter(%d, %d, 0)");
        Beyond.references(unknown, "shorter(%d, %d, 1)");
        Sentence.of(15, "OUTSIDE if what is not 0 or 1.").on("AB1r05").due("shorter(0, 0, -1) = -2; shorter(0, 0, 0) = 0; shorter(0, 0, 1) = 6;"
            + "shorter(0, 0, 2) = -2; shorter(0, 0, 2147483647) = -2; shorter(0, 0, -2147483648) = -2");
    }

    private static void print() {
        Sentence.of(16, "Returns a character of the paper as a text.").on("FE9s99=1r01@01,i@99,B;a9A,E").prints(0, "FE9s99=1r01@01,i@99,B;a9A,E");
        Sentence.of(16, "`how`: 0 for the paper as it is, 1 for the paper with each reference in its shorter form").on("AB1r05;AB1r05@07;B")
            .prints(0, "AB1r05;AB1r05@07;B").prints(1, "AB1r05;i@07;B").due("print(-1, 0) = -2; print(2, 0) = -2");
        Sentence.of(16, "`place`: the place of the character, counted from 0, or -1 for the number of characters").on("A;B").due("print(0, -2) = -2;"
            + "print(0, -1) = 3; print(0, 0) = 65; print(0, 1) = 59; print(0, 2) = 66; print(0, 3) = -9; print(1, -1) = 3; print(1, 2) = 66");
        Sentence number = Sentence.of(16, "Returns the code of the character, or the number;");
        number.fresh().due("print(0, -1) = 0; print(1, -1) = 0");
        number.on("i").due("print(0, -1) = 1; print(0, 0) = 105; print(1, -1) = 1; print(1, 0) = 105");
        Run largest = number.fresh().text("AB1r05=2s10@99,AB1r06=2s11@99,AB1r07=2s12@99,AB1r08=2s13@99");
        for (int note = 1; note <= 8; note++) largest.due("put(0, 0) = " + note);
        largest.due("print(0, -1) = 479; print(0, 478) = 57; print(0, 479) = -9; print(0, 420) = 65");
    }

    private static void printErrors() {
        Sentence none = Sentence.of(16, "NONE if there are not so many characters;");
        none.fresh().due("print(0, 0) = -9; print(1, 0) = -9; print(0, 2147483647) = -9");
        none.on("AB1r05;AB1r05").due("print(0, 12) = 53; print(0, 13) = -9; print(1, 7) = 105; print(1, 8) = -9; print(1, 12) = -9; print(0, 2147483647) = -9;"
            + "print(1, 2147483647) = -9; cut(1, 0) = 1; print(0, 5) = 53; print(0, 6) = -9");
        Sentence.of(16, "OUTSIDE if how is not 0 or 1 or place is less than -1.").on("A").due("print(-1, -1) = -2; print(2, -1) = -2; print(-1, 0) = -2; print(2, 0) = -2;"
            + "print(2147483647, 0) = -2; print(-2147483648, 0) = -2; print(0, -2) = -2; print(1, -2) = -2; print(0, -2147483648) = -2;"
            + "print(1, -2147483648) = -2; print(0, -1) = 1; print(1, -1) = 1");
    }
}
